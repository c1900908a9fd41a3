theorem dX6_restart_5 : decode cX6_restart 5 = .ok (.astore_n 2, 1) := by decide +kernel
theorem dX6_restart_6 : decode cX6_restart 6 = .ok (.aload_n 2, 1) := by decide +kernel
theorem dX6_restart_7 : decode cX6_restart 7 = .ok (.getfield 50, 3) := by decide +kernel
theorem dX6_restart_10 : decode cX6_restart 10 = .ok (.ifCond .eq 13, 3) := by decide +kernel
theorem dX6_restart_13 : decode cX6_restart 13 = .ok (.new 64, 3) := by decide +kernel
theorem dX6_restart_16 : decode cX6_restart 16 = .ok (.dup, 1) := by decide +kernel
theorem dX6_restart_17 : decode cX6_restart 17 = .ok (.ldc 168, 2) := by decide +kernel
theorem dX6_restart_19 : decode cX6_restart 19 = .ok (.invokespecial 68, 3) := by decide +kernel
theorem dX6_restart_22 : decode cX6_restart 22 = .ok (.athrow, 1) := by decide +kernel
theorem dX6_restart_23 : decode cX6_restart 23 = .ok (.aload_n 2, 1) := by decide +kernel
theorem dX6_restart_24 : decode cX6_restart 24 = .ok (.iconst 1, 1) := by decide +kernel
theorem dX6_restart_25 : decode cX6_restart 25 = .ok (.putfield 50, 3) := by decide +kernel
theorem dX6_restart_28 : decode cX6_restart 28 = .ok (.return_, 1) := by decide +kernel
set_option maxRecDepth 20000 in
theorem ggX6_about_X6_nodeAt : GoodIn wsX6_about wsX6_nodeAt := goodIn_ca (goodIn_r _ [24, 25, 26, 27, 62, 63, 64, 65] (by decide +kernel) (by decide +kernel)) (goodIn_sub (fun _ h => List.mem_cons_of_mem _ (List.mem_append_right _ h)) (by decide +kernel))
set_option maxRecDepth 20000 in
theorem gX6_about_X6_nodeAt : GoodIn wsX6_about (wsV RX6 42 RX6 yX6_nodeAt wsX6_nodeAt) := goodIn_app (goodIn_of _ (by decide +kernel)) ggX6_about_X6_nodeAt
set_option maxRecDepth 20000 in
theorem ggX6_about_X2_full : GoodIn wsX6_about wsX2_full := goodIn_r _ [32, 33, 34, 35, 36, 37, 38, 39, 40, 41, 42, 43, 44, 45, 46] (by decide +kernel) (by decide +kernel)
set_option maxRecDepth 20000 in
theorem gX6_about_X2_full : GoodIn wsX6_about (wsV RX6 103 RX2 yX2_full wsX2_full) := goodIn_app (goodIn_of _ (by decide +kernel)) ggX6_about_X2_full
theorem dX6_about_0 : decode cX6_about 0 = .ok (.aload_n 0, 1) := by decide +kernel
theorem dX6_about_1 : decode cX6_about 1 = .ok (.iload_n 1, 1) := by decide +kernel
theorem dX6_about_2 : decode cX6_about 2 = .ok (.invokevirtual 42, 3) := by decide +kernel
theorem dX6_about_5 : decode cX6_about 5 = .ok (.astore_n 3, 1) := by decide +kernel
theorem dX6_about_6 : decode cX6_about 6 = .ok (.iload_n 2, 1) := by decide +kernel
theorem dX6_about_7 : decode cX6_about 7 = .ok (.tableswitch 174 0 13 #[69, 82, 87, 95, 103, 111, 116, 121, 126, 134, 139, 144, 149, 166], 69) := by decide +kernel
theorem dX6_about_76 : decode cX6_about 76 = .ok (.aload_n 3, 1) := by decide +kernel
theorem dX6_about_77 : decode cX6_about 77 = .ok (.getfield 50, 3) := by decide +kernel
theorem dX6_about_80 : decode cX6_about 80 = .ok (.ifCond .eq 7, 3) := by decide +kernel
theorem dX6_about_83 : decode cX6_about 83 = .ok (.iconst 1, 1) := by decide +kernel
theorem dX6_about_84 : decode cX6_about 84 = .ok (.goto 4, 3) := by decide +kernel
theorem dX6_about_87 : decode cX6_about 87 = .ok (.iconst 0, 1) := by decide +kernel
theorem dX6_about_88 : decode cX6_about 88 = .ok (.ireturn, 1) := by decide +kernel
theorem dX6_about_89 : decode cX6_about 89 = .ok (.aload_n 3, 1) := by decide +kernel
theorem dX6_about_90 : decode cX6_about 90 = .ok (.getfield 124, 3) := by decide +kernel
theorem dX6_about_93 : decode cX6_about 93 = .ok (.ireturn, 1) := by decide +kernel
theorem dX6_about_94 : decode cX6_about 94 = .ok (.aload_n 3, 1) := by decide +kernel
theorem dX6_about_95 : decode cX6_about 95 = .ok (.getfield 80, 3) := by decide +kernel
theorem dX6_about_98 : decode cX6_about 98 = .ok (.getfield 170, 3) := by decide +kernel
theorem dX6_about_101 : decode cX6_about 101 = .ok (.ireturn, 1) := by decide +kernel
theorem dX6_about_102 : decode cX6_about 102 = .ok (.aload_n 3, 1) := by decide +kernel
theorem dX6_about_103 : decode cX6_about 103 = .ok (.getfield 80, 3) := by decide +kernel
theorem dX6_about_106 : decode cX6_about 106 = .ok (.getfield 173, 3) := by decide +kernel
theorem dX6_about_109 : decode cX6_about 109 = .ok (.ireturn, 1) := by decide +kernel
theorem dX6_about_110 : decode cX6_about 110 = .ok (.aload_n 3, 1) := by decide +kernel
theorem dX6_about_111 : decode cX6_about 111 = .ok (.getfield 54, 3) := by decide +kernel
theorem dX6_about_114 : decode cX6_about 114 = .ok (.getfield 176, 3) := by decide +kernel
theorem dX6_about_117 : decode cX6_about 117 = .ok (.ireturn, 1) := by decide +kernel
theorem dX6_about_118 : decode cX6_about 118 = .ok (.aload_n 3, 1) := by decide +kernel
theorem dX6_about_119 : decode cX6_about 119 = .ok (.invokevirtual 103, 3) := by decide +kernel
theorem dX6_about_122 : decode cX6_about 122 = .ok (.ireturn, 1) := by decide +kernel
theorem dX6_about_123 : decode cX6_about 123 = .ok (.aload_n 3, 1) := by decide +kernel
theorem dX6_about_124 : decode cX6_about 124 = .ok (.getfield 179, 3) := by decide +kernel
theorem dX6_about_127 : decode cX6_about 127 = .ok (.ireturn, 1) := by decide +kernel
theorem dX6_about_128 : decode cX6_about 128 = .ok (.aload_n 3, 1) := by decide +kernel
theorem dX6_about_129 : decode cX6_about 129 = .ok (.getfield 106, 3) := by decide +kernel
theorem dX6_about_132 : decode cX6_about 132 = .ok (.ireturn, 1) := by decide +kernel
theorem dX6_about_133 : decode cX6_about 133 = .ok (.aload_n 3, 1) := by decide +kernel
theorem dX6_about_134 : decode cX6_about 134 = .ok (.getfield 182, 3) := by decide +kernel
theorem dX6_about_137 : decode cX6_about 137 = .ok (.getfield 186, 3) := by decide +kernel
theorem dX6_about_140 : decode cX6_about 140 = .ok (.ireturn, 1) := by decide +kernel
theorem dX6_about_141 : decode cX6_about 141 = .ok (.aload_n 3, 1) := by decide +kernel
theorem dX6_about_142 : decode cX6_about 142 = .ok (.getfield 191, 3) := by decide +kernel
theorem dX6_about_145 : decode cX6_about 145 = .ok (.ireturn, 1) := by decide +kernel
theorem dX6_about_146 : decode cX6_about 146 = .ok (.aload_n 3, 1) := by decide +kernel
theorem dX6_about_147 : decode cX6_about 147 = .ok (.getfield 139, 3) := by decide +kernel
theorem dX6_about_150 : decode cX6_about 150 = .ok (.ireturn, 1) := by decide +kernel
theorem dX6_about_151 : decode cX6_about 151 = .ok (.aload_n 3, 1) := by decide +kernel
theorem dX6_about_152 : decode cX6_about 152 = .ok (.getfield 194, 3) := by decide +kernel
theorem dX6_about_155 : decode cX6_about 155 = .ok (.ireturn, 1) := by decide +kernel
theorem dX6_about_156 : decode cX6_about 156 = .ok (.aload_n 3, 1) := by decide +kernel
theorem dX6_about_157 : decode cX6_about 157 = .ok (.getfield 80, 3) := by decide +kernel
theorem dX6_about_160 : decode cX6_about 160 = .ok (.getfield 83, 3) := by decide +kernel
theorem dX6_about_163 : decode cX6_about 163 = .ok (.iload_n 1, 1) := by decide +kernel
theorem dX6_about_164 : decode cX6_about 164 = .ok (.if_icmp .ne 7, 3) := by decide +kernel
theorem dX6_about_167 : decode cX6_about 167 = .ok (.iconst 1, 1) := by decide +kernel
theorem dX6_about_168 : decode cX6_about 168 = .ok (.goto 4, 3) := by decide +kernel
theorem dX6_about_171 : decode cX6_about 171 = .ok (.iconst 0, 1) := by decide +kernel
theorem dX6_about_172 : decode cX6_about 172 = .ok (.ireturn, 1) := by decide +kernel
theorem dX6_about_173 : decode cX6_about 173 = .ok (.aload_n 3, 1) := by decide +kernel
theorem dX6_about_174 : decode cX6_about 174 = .ok (.getfield 197, 3) := by decide +kernel
theorem dX6_about_177 : decode cX6_about 177 = .ok (.getfield 201, 3) := by decide +kernel
theorem dX6_about_180 : decode cX6_about 180 = .ok (.ireturn, 1) := by decide +kernel
theorem dX6_about_181 : decode cX6_about 181 = .ok (.new 156, 3) := by decide +kernel
theorem dX6_about_184 : decode cX6_about 184 = .ok (.dup, 1) := by decide +kernel
theorem dX6_about_185 : decode cX6_about 185 = .ok (.ldc 206, 2) := by decide +kernel
theorem dX6_about_187 : decode cX6_about 187 = .ok (.invokespecial 160, 3) := by decide +kernel
theorem dX6_about_190 : decode cX6_about 190 = .ok (.athrow, 1) := by decide +kernel
set_option maxRecDepth 20000 in
theorem ggX6_table_X6_nodeAt : GoodIn wsX6_table wsX6_nodeAt := goodIn_ca (goodIn_r _ [7, 8, 9, 10, 32, 33, 34, 35] (by decide +kernel) (by decide +kernel)) (goodIn_sub (fun _ h => List.mem_cons_of_mem _ (List.mem_append_right _ h)) (by decide +kernel))
set_option maxRecDepth 20000 in
theorem gX6_table_X6_nodeAt : GoodIn wsX6_table (wsV RX6 42 RX6 yX6_nodeAt wsX6_nodeAt) := goodIn_app (goodIn_of _ (by decide +kernel)) ggX6_table_X6_nodeAt
set_option maxRecDepth 20000 in
theorem ggX6_table_X6_checkKey : GoodIn wsX6_table wsX6_checkKey := goodIn_ca (goodIn_r _ [13, 8, 9] (by decide +kernel) (by decide +kernel)) (goodIn_sub (fun _ h => List.mem_cons_of_mem _ (List.mem_append_right _ h)) (by decide +kernel))
set_option maxRecDepth 20000 in
theorem gX6_table_X6_checkKey : GoodIn wsX6_table (va_wsS RX6 46 yX6_checkKey wsX6_checkKey) := goodIn_app (goodIn_of _ (by decide +kernel)) ggX6_table_X6_checkKey
theorem dX6_table_0 : decode cX6_table 0 = .ok (.aload_n 0, 1) := by decide +kernel
theorem dX6_table_1 : decode cX6_table 1 = .ok (.iload_n 1, 1) := by decide +kernel
theorem dX6_table_2 : decode cX6_table 2 = .ok (.invokevirtual 42, 3) := by decide +kernel
theorem dX6_table_5 : decode cX6_table 5 = .ok (.astore_n 3, 1) := by decide +kernel
theorem dX6_table_6 : decode cX6_table 6 = .ok (.iload_n 2, 1) := by decide +kernel
theorem dX6_table_7 : decode cX6_table 7 = .ok (.invokestatic 46, 3) := by decide +kernel
theorem dX6_table_10 : decode cX6_table 10 = .ok (.aload_n 3, 1) := by decide +kernel
theorem dX6_table_11 : decode cX6_table 11 = .ok (.getfield 182, 3) := by decide +kernel
theorem dX6_table_14 : decode cX6_table 14 = .ok (.getfield 208, 3) := by decide +kernel
theorem dX6_table_17 : decode cX6_table 17 = .ok (.iload_n 2, 1) := by decide +kernel
theorem dX6_table_18 : decode cX6_table 18 = .ok (.laload, 1) := by decide +kernel
theorem dX6_table_19 : decode cX6_table 19 = .ok (.lreturn, 1) := by decide +kernel
set_option maxRecDepth 20000 in
theorem ggX6_mark_X6_nodeAt : GoodIn wsX6_mark wsX6_nodeAt := goodIn_ca (goodIn_r _ [7, 8, 9, 10, 29, 30, 31, 32] (by decide +kernel) (by decide +kernel)) (goodIn_sub (fun _ h => List.mem_cons_of_mem _ (List.mem_append_right _ h)) (by decide +kernel))
set_option maxRecDepth 20000 in
theorem gX6_mark_X6_nodeAt : GoodIn wsX6_mark (wsV RX6 42 RX6 yX6_nodeAt wsX6_nodeAt) := goodIn_app (goodIn_of _ (by decide +kernel)) ggX6_mark_X6_nodeAt
theorem dX6_mark_0 : decode cX6_mark 0 = .ok (.aload_n 0, 1) := by decide +kernel
theorem dX6_mark_1 : decode cX6_mark 1 = .ok (.iload_n 1, 1) := by decide +kernel
theorem dX6_mark_2 : decode cX6_mark 2 = .ok (.invokevirtual 42, 3) := by decide +kernel
theorem dX6_mark_5 : decode cX6_mark 5 = .ok (.getfield 182, 3) := by decide +kernel
theorem dX6_mark_8 : decode cX6_mark 8 = .ok (.getfield 212, 3) := by decide +kernel
theorem dX6_mark_11 : decode cX6_mark 11 = .ok (.lreturn, 1) := by decide +kernel
set_option maxRecDepth 20000 in
theorem ggX6_entry_X6_nodeAt : GoodIn wsX6_entry wsX6_nodeAt := goodIn_ca (goodIn_r _ [10, 1, 2, 11, 45, 46, 47, 48] (by decide +kernel) (by decide +kernel)) (goodIn_sub (fun _ h => List.mem_cons_of_mem _ (List.mem_append_left _ (List.mem_append_right _ h))) (by decide +kernel))
set_option maxRecDepth 20000 in
theorem gX6_entry_X6_nodeAt : GoodIn wsX6_entry (wsV RX6 42 RX6 yX6_nodeAt wsX6_nodeAt) := goodIn_app (goodIn_of _ (by decide +kernel)) ggX6_entry_X6_nodeAt
set_option maxRecDepth 20000 in
theorem ggX6_entry_X0_size : GoodIn wsX6_entry wsX0_size := goodIn_r _ [16, 17, 18, 19, 20, 21, 49, 50] (by decide +kernel) (by decide +kernel)
set_option maxRecDepth 20000 in
theorem gX6_entry_X0_size : GoodIn wsX6_entry (wsV RX6 216 RX0 yX0_size wsX0_size) := goodIn_app (goodIn_of _ (by decide +kernel)) ggX6_entry_X0_size
set_option maxRecDepth 20000 in
theorem ggX6_entry_X0_cell : GoodIn wsX6_entry wsX0_cell := goodIn_r _ [25, 26, 17, 27, 13, 14, 15, 16, 18, 19, 20, 21, 28, 29, 30, 31, 49, 50] (by decide +kernel) (by decide +kernel)
set_option maxRecDepth 20000 in
theorem gX6_entry_X0_cell : GoodIn wsX6_entry (wsV RX6 226 RX0 yX0_cell wsX0_cell) := goodIn_app (goodIn_of _ (by decide +kernel)) ggX6_entry_X0_cell
theorem dX6_entry_0 : decode cX6_entry 0 = .ok (.aload_n 0, 1) := by decide +kernel
theorem dX6_entry_1 : decode cX6_entry 1 = .ok (.iload_n 1, 1) := by decide +kernel
theorem dX6_entry_2 : decode cX6_entry 2 = .ok (.invokevirtual 42, 3) := by decide +kernel
theorem dX6_entry_5 : decode cX6_entry 5 = .ok (.getfield 197, 3) := by decide +kernel
theorem dX6_entry_8 : decode cX6_entry 8 = .ok (.astore 4, 2) := by decide +kernel
theorem dX6_entry_10 : decode cX6_entry 10 = .ok (.iload_n 2, 1) := by decide +kernel
theorem dX6_entry_11 : decode cX6_entry 11 = .ok (.ifCond .lt 12, 3) := by decide +kernel
theorem dX6_entry_14 : decode cX6_entry 14 = .ok (.iload_n 2, 1) := by decide +kernel
theorem dX6_entry_15 : decode cX6_entry 15 = .ok (.aload 4, 2) := by decide +kernel
theorem dX6_entry_17 : decode cX6_entry 17 = .ok (.invokevirtual 216, 3) := by decide +kernel
theorem dX6_entry_20 : decode cX6_entry 20 = .ok (.if_icmp .lt 13, 3) := by decide +kernel
theorem dX6_entry_23 : decode cX6_entry 23 = .ok (.new 219, 3) := by decide +kernel
theorem dX6_entry_26 : decode cX6_entry 26 = .ok (.dup, 1) := by decide +kernel
theorem dX6_entry_27 : decode cX6_entry 27 = .ok (.ldc 221, 2) := by decide +kernel
theorem dX6_entry_29 : decode cX6_entry 29 = .ok (.invokespecial 223, 3) := by decide +kernel
theorem dX6_entry_32 : decode cX6_entry 32 = .ok (.athrow, 1) := by decide +kernel
theorem dX6_entry_33 : decode cX6_entry 33 = .ok (.iload_n 3, 1) := by decide +kernel
theorem dX6_entry_34 : decode cX6_entry 34 = .ok (.ifCond .lt 9, 3) := by decide +kernel
theorem dX6_entry_37 : decode cX6_entry 37 = .ok (.iload_n 3, 1) := by decide +kernel
theorem dX6_entry_38 : decode cX6_entry 38 = .ok (.bipush 6, 2) := by decide +kernel
theorem dX6_entry_40 : decode cX6_entry 40 = .ok (.if_icmp .lt 13, 3) := by decide +kernel
theorem dX6_entry_43 : decode cX6_entry 43 = .ok (.new 156, 3) := by decide +kernel
theorem dX6_entry_46 : decode cX6_entry 46 = .ok (.dup, 1) := by decide +kernel
theorem dX6_entry_47 : decode cX6_entry 47 = .ok (.ldc 224, 2) := by decide +kernel
theorem dX6_entry_49 : decode cX6_entry 49 = .ok (.invokespecial 160, 3) := by decide +kernel
theorem dX6_entry_52 : decode cX6_entry 52 = .ok (.athrow, 1) := by decide +kernel
theorem dX6_entry_53 : decode cX6_entry 53 = .ok (.aload 4, 2) := by decide +kernel
theorem dX6_entry_55 : decode cX6_entry 55 = .ok (.iload_n 2, 1) := by decide +kernel
theorem dX6_entry_56 : decode cX6_entry 56 = .ok (.iload_n 3, 1) := by decide +kernel
theorem dX6_entry_57 : decode cX6_entry 57 = .ok (.invokevirtual 226, 3) := by decide +kernel
theorem dX6_entry_60 : decode cX6_entry 60 = .ok (.lreturn, 1) := by decide +kernel
set_option maxRecDepth 20000 in
theorem ggX6_primary_X6_nodeAt : GoodIn wsX6_primary wsX6_nodeAt := goodIn_ca (goodIn_r _ [5, 6, 7, 8, 17, 18, 19, 20] (by decide +kernel) (by decide +kernel)) (goodIn_sub (fun _ h => List.mem_cons_of_mem _ (List.mem_append_right _ h)) (by decide +kernel))
set_option maxRecDepth 20000 in
theorem gX6_primary_X6_nodeAt : GoodIn wsX6_primary (wsV RX6 42 RX6 yX6_nodeAt wsX6_nodeAt) := goodIn_app (goodIn_of _ (by decide +kernel)) ggX6_primary_X6_nodeAt
set_option maxRecDepth 20000 in
theorem ggX6_primary_X2_isOfPrimary : GoodIn wsX6_primary wsX2_isOfPrimary := goodIn_r _ [13, 14, 15, 16, 21, 22, 23, 24, 25, 26, 27, 28, 29, 30, 31, 32, 33, 34, 35, 36, 37, 38, 39] (by decide +kernel) (by decide +kernel)
set_option maxRecDepth 20000 in
theorem gX6_primary_X2_isOfPrimary : GoodIn wsX6_primary (wsV RX6 230 RX2 yX2_isOfPrimary wsX2_isOfPrimary) := goodIn_app (goodIn_of _ (by decide +kernel)) ggX6_primary_X2_isOfPrimary
theorem dX6_primary_0 : decode cX6_primary 0 = .ok (.aload_n 0, 1) := by decide +kernel
theorem dX6_primary_1 : decode cX6_primary 1 = .ok (.iload_n 1, 1) := by decide +kernel
theorem dX6_primary_2 : decode cX6_primary 2 = .ok (.invokevirtual 42, 3) := by decide +kernel
theorem dX6_primary_5 : decode cX6_primary 5 = .ok (.invokevirtual 230, 3) := by decide +kernel
theorem dX6_primary_8 : decode cX6_primary 8 = .ok (.ireturn, 1) := by decide +kernel
theorem dX6_nodeAt_0 : decode cX6_nodeAt 0 = .ok (.iload_n 1, 1) := by decide +kernel
theorem dX6_nodeAt_1 : decode cX6_nodeAt 1 = .ok (.ifCond .lt 12, 3) := by decide +kernel
theorem dX6_nodeAt_4 : decode cX6_nodeAt 4 = .ok (.iload_n 1, 1) := by decide +kernel
theorem dX6_nodeAt_5 : decode cX6_nodeAt 5 = .ok (.aload_n 0, 1) := by decide +kernel
theorem dX6_nodeAt_6 : decode cX6_nodeAt 6 = .ok (.getfield 31, 3) := by decide +kernel
theorem dX6_nodeAt_9 : decode cX6_nodeAt 9 = .ok (.arraylength, 1) := by decide +kernel
theorem dX6_nodeAt_10 : decode cX6_nodeAt 10 = .ok (.if_icmp .lt 13, 3) := by decide +kernel
theorem dX6_nodeAt_13 : decode cX6_nodeAt 13 = .ok (.new 219, 3) := by decide +kernel
theorem dX6_nodeAt_16 : decode cX6_nodeAt 16 = .ok (.dup, 1) := by decide +kernel
theorem dX6_nodeAt_17 : decode cX6_nodeAt 17 = .ok (.ldc 233, 2) := by decide +kernel
theorem dX6_nodeAt_19 : decode cX6_nodeAt 19 = .ok (.invokespecial 223, 3) := by decide +kernel
theorem dX6_nodeAt_22 : decode cX6_nodeAt 22 = .ok (.athrow, 1) := by decide +kernel
theorem dX6_nodeAt_23 : decode cX6_nodeAt 23 = .ok (.aload_n 0, 1) := by decide +kernel
theorem dX6_nodeAt_24 : decode cX6_nodeAt 24 = .ok (.getfield 31, 3) := by decide +kernel
theorem dX6_nodeAt_27 : decode cX6_nodeAt 27 = .ok (.iload_n 1, 1) := by decide +kernel
theorem dX6_nodeAt_28 : decode cX6_nodeAt 28 = .ok (.aaload, 1) := by decide +kernel
theorem dX6_nodeAt_29 : decode cX6_nodeAt 29 = .ok (.areturn, 1) := by decide +kernel
theorem dX6_checkKey_0 : decode cX6_checkKey 0 = .ok (.iload_n 0, 1) := by decide +kernel
theorem dX6_checkKey_1 : decode cX6_checkKey 1 = .ok (.ifCond .lt 9, 3) := by decide +kernel
theorem dX6_checkKey_4 : decode cX6_checkKey 4 = .ok (.iload_n 0, 1) := by decide +kernel
theorem dX6_checkKey_5 : decode cX6_checkKey 5 = .ok (.bipush 16, 2) := by decide +kernel
theorem dX6_checkKey_7 : decode cX6_checkKey 7 = .ok (.if_icmp .lt 13, 3) := by decide +kernel
theorem dX6_checkKey_10 : decode cX6_checkKey 10 = .ok (.new 219, 3) := by decide +kernel
theorem dX6_checkKey_13 : decode cX6_checkKey 13 = .ok (.dup, 1) := by decide +kernel
theorem dX6_checkKey_14 : decode cX6_checkKey 14 = .ok (.ldc 235, 2) := by decide +kernel
theorem dX6_checkKey_16 : decode cX6_checkKey 16 = .ok (.invokespecial 223, 3) := by decide +kernel
theorem dX6_checkKey_19 : decode cX6_checkKey 19 = .ok (.athrow, 1) := by decide +kernel
theorem dX6_checkKey_20 : decode cX6_checkKey 20 = .ok (.return_, 1) := by decide +kernel
theorem dX6_isIn_0 : decode cX6_isIn 0 = .ok (.iload_n 1, 1) := by decide +kernel
theorem dX6_isIn_1 : decode cX6_isIn 1 = .ok (.iconst 1, 1) := by decide +kernel
theorem dX6_isIn_2 : decode cX6_isIn 2 = .ok (.iload_n 0, 1) := by decide +kernel
theorem dX6_isIn_3 : decode cX6_isIn 3 = .ok (.ishl, 1) := by decide +kernel
theorem dX6_isIn_4 : decode cX6_isIn 4 = .ok (.iand, 1) := by decide +kernel
theorem dX6_isIn_5 : decode cX6_isIn 5 = .ok (.ifCond .eq 7, 3) := by decide +kernel
theorem dX6_isIn_8 : decode cX6_isIn 8 = .ok (.iconst 1, 1) := by decide +kernel
theorem dX6_isIn_9 : decode cX6_isIn 9 = .ok (.goto 4, 3) := by decide +kernel
theorem dX6_isIn_12 : decode cX6_isIn 12 = .ok (.iconst 0, 1) := by decide +kernel
theorem dX6_isIn_13 : decode cX6_isIn 13 = .ok (.ireturn, 1) := by decide +kernel
set_option maxRecDepth 20000 in
theorem ggX6_leastOf_X6_isIn : GoodIn wsX6_leastOf wsX6_isIn := goodIn_r _ [4] (by decide +kernel) (by decide +kernel)
set_option maxRecDepth 20000 in
theorem gX6_leastOf_X6_isIn : GoodIn wsX6_leastOf (va_wsS RX6 237 yX6_isIn wsX6_isIn) := goodIn_app (goodIn_of _ (by decide +kernel)) ggX6_leastOf_X6_isIn
theorem dX6_leastOf_0 : decode cX6_leastOf 0 = .ok (.iconst 0, 1) := by decide +kernel
theorem dX6_leastOf_1 : decode cX6_leastOf 1 = .ok (.istore_n 1, 1) := by decide +kernel
theorem dX6_leastOf_2 : decode cX6_leastOf 2 = .ok (.iload_n 1, 1) := by decide +kernel
theorem dX6_leastOf_3 : decode cX6_leastOf 3 = .ok (.bipush 8, 2) := by decide +kernel
theorem dX6_leastOf_5 : decode cX6_leastOf 5 = .ok (.if_icmp .ge 19, 3) := by decide +kernel
theorem dX6_leastOf_8 : decode cX6_leastOf 8 = .ok (.iload_n 1, 1) := by decide +kernel
theorem dX6_leastOf_9 : decode cX6_leastOf 9 = .ok (.iload_n 0, 1) := by decide +kernel
theorem dX6_leastOf_10 : decode cX6_leastOf 10 = .ok (.invokestatic 237, 3) := by decide +kernel
theorem dX6_leastOf_13 : decode cX6_leastOf 13 = .ok (.ifCond .eq 5, 3) := by decide +kernel
theorem dX6_leastOf_16 : decode cX6_leastOf 16 = .ok (.iload_n 1, 1) := by decide +kernel
theorem dX6_leastOf_17 : decode cX6_leastOf 17 = .ok (.ireturn, 1) := by decide +kernel
theorem dX6_leastOf_18 : decode cX6_leastOf 18 = .ok (.iinc 1 1, 3) := by decide +kernel
theorem dX6_leastOf_21 : decode cX6_leastOf 21 = .ok (.goto (-19), 3) := by decide +kernel
theorem dX6_leastOf_24 : decode cX6_leastOf 24 = .ok (.iconst (-1), 1) := by decide +kernel
theorem dX6_leastOf_25 : decode cX6_leastOf 25 = .ok (.ireturn, 1) := by decide +kernel
theorem dX6_reaches_0 : decode cX6_reaches 0 = .ok (.aload_n 1, 1) := by decide +kernel
theorem dX6_reaches_1 : decode cX6_reaches 1 = .ok (.getfield 50, 3) := by decide +kernel
theorem dX6_reaches_4 : decode cX6_reaches 4 = .ok (.ifCond .eq 29, 3) := by decide +kernel
theorem dX6_reaches_7 : decode cX6_reaches 7 = .ok (.aload_n 1, 1) := by decide +kernel
theorem dX6_reaches_8 : decode cX6_reaches 8 = .ok (.getfield 124, 3) := by decide +kernel
theorem dX6_reaches_11 : decode cX6_reaches 11 = .ok (.aload_n 0, 1) := by decide +kernel
theorem dX6_reaches_12 : decode cX6_reaches 12 = .ok (.getfield 124, 3) := by decide +kernel
theorem dX6_reaches_15 : decode cX6_reaches 15 = .ok (.if_icmp .ne 18, 3) := by decide +kernel
theorem dX6_reaches_18 : decode cX6_reaches 18 = .ok (.aload_n 1, 1) := by decide +kernel
theorem dX6_reaches_19 : decode cX6_reaches 19 = .ok (.getfield 80, 3) := by decide +kernel
theorem dX6_reaches_22 : decode cX6_reaches 22 = .ok (.aload_n 0, 1) := by decide +kernel
theorem dX6_reaches_23 : decode cX6_reaches 23 = .ok (.getfield 80, 3) := by decide +kernel
theorem dX6_reaches_26 : decode cX6_reaches 26 = .ok (.if_acmp .ne 7, 3) := by decide +kernel
theorem dX6_reaches_29 : decode cX6_reaches 29 = .ok (.iconst 1, 1) := by decide +kernel
theorem dX6_reaches_30 : decode cX6_reaches 30 = .ok (.goto 4, 3) := by decide +kernel
theorem dX6_reaches_33 : decode cX6_reaches 33 = .ok (.iconst 0, 1) := by decide +kernel
theorem dX6_reaches_34 : decode cX6_reaches 34 = .ok (.ireturn, 1) := by decide +kernel
set_option maxRecDepth 20000 in
theorem ggX6_receiversOf_X6_reaches : GoodIn wsX6_receiversOf wsX6_reaches := goodIn_r _ [6, 7, 8, 9, 14, 15, 16, 17, 18, 19, 20, 21, 22, 23, 24, 25, 26] (by decide +kernel) (by decide +kernel)
set_option maxRecDepth 20000 in
theorem gX6_receiversOf_X6_reaches : GoodIn wsX6_receiversOf (va_wsS RX6 240 yX6_reaches wsX6_reaches) := goodIn_app (goodIn_of _ (by decide +kernel)) ggX6_receiversOf_X6_reaches
theorem dX6_receiversOf_0 : decode cX6_receiversOf 0 = .ok (.iconst 0, 1) := by decide +kernel
theorem dX6_receiversOf_1 : decode cX6_receiversOf 1 = .ok (.istore_n 2, 1) := by decide +kernel
theorem dX6_receiversOf_2 : decode cX6_receiversOf 2 = .ok (.aload_n 0, 1) := by decide +kernel
theorem dX6_receiversOf_3 : decode cX6_receiversOf 3 = .ok (.getfield 31, 3) := by decide +kernel
theorem dX6_receiversOf_6 : decode cX6_receiversOf 6 = .ok (.astore_n 3, 1) := by decide +kernel
theorem dX6_receiversOf_7 : decode cX6_receiversOf 7 = .ok (.aload_n 3, 1) := by decide +kernel
theorem dX6_receiversOf_8 : decode cX6_receiversOf 8 = .ok (.arraylength, 1) := by decide +kernel
theorem dX6_receiversOf_9 : decode cX6_receiversOf 9 = .ok (.istore 4, 2) := by decide +kernel
theorem dX6_receiversOf_11 : decode cX6_receiversOf 11 = .ok (.iconst 0, 1) := by decide +kernel
theorem dX6_receiversOf_12 : decode cX6_receiversOf 12 = .ok (.istore 5, 2) := by decide +kernel
theorem dX6_receiversOf_14 : decode cX6_receiversOf 14 = .ok (.iload 5, 2) := by decide +kernel
theorem dX6_receiversOf_16 : decode cX6_receiversOf 16 = .ok (.iload 4, 2) := by decide +kernel
theorem dX6_receiversOf_18 : decode cX6_receiversOf 18 = .ok (.if_icmp .ge 40, 3) := by decide +kernel
theorem dX6_receiversOf_21 : decode cX6_receiversOf 21 = .ok (.aload_n 3, 1) := by decide +kernel
theorem dX6_receiversOf_22 : decode cX6_receiversOf 22 = .ok (.iload 5, 2) := by decide +kernel
theorem dX6_receiversOf_24 : decode cX6_receiversOf 24 = .ok (.aaload, 1) := by decide +kernel
theorem dX6_receiversOf_25 : decode cX6_receiversOf 25 = .ok (.astore 6, 2) := by decide +kernel
theorem dX6_receiversOf_27 : decode cX6_receiversOf 27 = .ok (.aload 6, 2) := by decide +kernel
theorem dX6_receiversOf_29 : decode cX6_receiversOf 29 = .ok (.aload_n 1, 1) := by decide +kernel
theorem dX6_receiversOf_30 : decode cX6_receiversOf 30 = .ok (.if_acmp .eq 22, 3) := by decide +kernel
theorem dX6_receiversOf_33 : decode cX6_receiversOf 33 = .ok (.aload_n 1, 1) := by decide +kernel
theorem dX6_receiversOf_34 : decode cX6_receiversOf 34 = .ok (.aload 6, 2) := by decide +kernel
theorem dX6_receiversOf_36 : decode cX6_receiversOf 36 = .ok (.invokestatic 240, 3) := by decide +kernel
theorem dX6_receiversOf_39 : decode cX6_receiversOf 39 = .ok (.ifCond .eq 13, 3) := by decide +kernel
theorem dX6_receiversOf_42 : decode cX6_receiversOf 42 = .ok (.iload_n 2, 1) := by decide +kernel
theorem dX6_receiversOf_43 : decode cX6_receiversOf 43 = .ok (.iconst 1, 1) := by decide +kernel
theorem dX6_receiversOf_44 : decode cX6_receiversOf 44 = .ok (.aload 6, 2) := by decide +kernel
theorem dX6_receiversOf_46 : decode cX6_receiversOf 46 = .ok (.getfield 244, 3) := by decide +kernel
theorem dX6_receiversOf_49 : decode cX6_receiversOf 49 = .ok (.ishl, 1) := by decide +kernel
theorem dX6_receiversOf_50 : decode cX6_receiversOf 50 = .ok (.ior, 1) := by decide +kernel
theorem dX6_receiversOf_51 : decode cX6_receiversOf 51 = .ok (.istore_n 2, 1) := by decide +kernel
theorem dX6_receiversOf_52 : decode cX6_receiversOf 52 = .ok (.iinc 5 1, 3) := by decide +kernel
theorem dX6_receiversOf_55 : decode cX6_receiversOf 55 = .ok (.goto (-41), 3) := by decide +kernel
theorem dX6_receiversOf_58 : decode cX6_receiversOf 58 = .ok (.iload_n 2, 1) := by decide +kernel
theorem dX6_receiversOf_59 : decode cX6_receiversOf 59 = .ok (.ireturn, 1) := by decide +kernel
set_option maxRecDepth 20000 in
theorem ggX6_sendRequested_X6_giveTo : GoodIn wsX6_sendRequested wsX6_giveTo := goodIn_r _ [9, 10, 11, 12, 13, 8, 14, 15, 16, 17, 18, 19, 20, 21, 22, 23, 24, 25, 26, 27, 28, 29, 30, 50, 51, 52, 53, 31, 32, 33, 34, 35, 36, 37, 38, 39, 40, 41, 42, 43, 54, 55, 56, 57, 58, 59, 60, 61, 62, 44, 45, 46, 47, 48, 49] (by decide +kernel) (by decide +kernel)
set_option maxRecDepth 20000 in
theorem gX6_sendRequested_X6_giveTo : GoodIn wsX6_sendRequested (wsV RX6 256 RX6 yX6_giveTo wsX6_giveTo) := goodIn_app (goodIn_of _ (by decide +kernel)) ggX6_sendRequested_X6_giveTo
theorem dX6_sendRequested_0 : decode cX6_sendRequested 0 = .ok (.aload_n 1, 1) := by decide +kernel
theorem dX6_sendRequested_1 : decode cX6_sendRequested 1 = .ok (.getfield 80, 3) := by decide +kernel
theorem dX6_sendRequested_4 : decode cX6_sendRequested 4 = .ok (.astore_n 3, 1) := by decide +kernel
theorem dX6_sendRequested_5 : decode cX6_sendRequested 5 = .ok (.iconst 1, 1) := by decide +kernel
theorem dX6_sendRequested_6 : decode cX6_sendRequested 6 = .ok (.istore 4, 2) := by decide +kernel
theorem dX6_sendRequested_8 : decode cX6_sendRequested 8 = .ok (.iload 4, 2) := by decide +kernel
theorem dX6_sendRequested_10 : decode cX6_sendRequested 10 = .ok (.aload_n 3, 1) := by decide +kernel
theorem dX6_sendRequested_11 : decode cX6_sendRequested 11 = .ok (.getfield 245, 3) := by decide +kernel
theorem dX6_sendRequested_14 : decode cX6_sendRequested 14 = .ok (.if_icmp .gt 51, 3) := by decide +kernel
theorem dX6_sendRequested_17 : decode cX6_sendRequested 17 = .ok (.aload_n 3, 1) := by decide +kernel
theorem dX6_sendRequested_18 : decode cX6_sendRequested 18 = .ok (.getfield 248, 3) := by decide +kernel
theorem dX6_sendRequested_21 : decode cX6_sendRequested 21 = .ok (.iload 4, 2) := by decide +kernel
theorem dX6_sendRequested_23 : decode cX6_sendRequested 23 = .ok (.baload, 1) := by decide +kernel
theorem dX6_sendRequested_24 : decode cX6_sendRequested 24 = .ok (.ifCond .eq 35, 3) := by decide +kernel
theorem dX6_sendRequested_27 : decode cX6_sendRequested 27 = .ok (.aload_n 1, 1) := by decide +kernel
theorem dX6_sendRequested_28 : decode cX6_sendRequested 28 = .ok (.getfield 252, 3) := by decide +kernel
theorem dX6_sendRequested_31 : decode cX6_sendRequested 31 = .ok (.iload 4, 2) := by decide +kernel
theorem dX6_sendRequested_33 : decode cX6_sendRequested 33 = .ok (.aaload, 1) := by decide +kernel
theorem dX6_sendRequested_34 : decode cX6_sendRequested 34 = .ok (.ifnull 25, 3) := by decide +kernel
theorem dX6_sendRequested_37 : decode cX6_sendRequested 37 = .ok (.aload_n 0, 1) := by decide +kernel
theorem dX6_sendRequested_38 : decode cX6_sendRequested 38 = .ok (.iload_n 2, 1) := by decide +kernel
theorem dX6_sendRequested_39 : decode cX6_sendRequested 39 = .ok (.iload 4, 2) := by decide +kernel
theorem dX6_sendRequested_41 : decode cX6_sendRequested 41 = .ok (.aload_n 1, 1) := by decide +kernel
theorem dX6_sendRequested_42 : decode cX6_sendRequested 42 = .ok (.getfield 252, 3) := by decide +kernel
theorem dX6_sendRequested_45 : decode cX6_sendRequested 45 = .ok (.iload 4, 2) := by decide +kernel
theorem dX6_sendRequested_47 : decode cX6_sendRequested 47 = .ok (.aaload, 1) := by decide +kernel
theorem dX6_sendRequested_48 : decode cX6_sendRequested 48 = .ok (.invokevirtual 256, 3) := by decide +kernel
theorem dX6_sendRequested_51 : decode cX6_sendRequested 51 = .ok (.aload_n 3, 1) := by decide +kernel
theorem dX6_sendRequested_52 : decode cX6_sendRequested 52 = .ok (.getfield 248, 3) := by decide +kernel
theorem dX6_sendRequested_55 : decode cX6_sendRequested 55 = .ok (.iload 4, 2) := by decide +kernel
theorem dX6_sendRequested_57 : decode cX6_sendRequested 57 = .ok (.iconst 0, 1) := by decide +kernel
theorem dX6_sendRequested_58 : decode cX6_sendRequested 58 = .ok (.bastore, 1) := by decide +kernel
theorem dX6_sendRequested_59 : decode cX6_sendRequested 59 = .ok (.iinc 4 1, 3) := by decide +kernel
theorem dX6_sendRequested_62 : decode cX6_sendRequested 62 = .ok (.goto (-54), 3) := by decide +kernel
theorem dX6_sendRequested_65 : decode cX6_sendRequested 65 = .ok (.return_, 1) := by decide +kernel
set_option maxRecDepth 20000 in
theorem ggX6_sendPending_X3_takeFirst : GoodIn wsX6_sendPending wsX3_takeFirst := goodIn_r _ [10, 11, 12, 61, 62] (by decide +kernel) (by decide +kernel)
set_option maxRecDepth 20000 in
theorem gX6_sendPending_X3_takeFirst : GoodIn wsX6_sendPending (wsV RX6 260 RX3 yX3_takeFirst wsX3_takeFirst) := goodIn_app (goodIn_of _ (by decide +kernel)) ggX6_sendPending_X3_takeFirst
set_option maxRecDepth 20000 in
theorem ggX6_sendPending_X6_giveTo : GoodIn wsX6_sendPending wsX6_giveTo := goodIn_r _ [17, 18, 5, 19, 20, 16, 21, 22, 23, 24, 25, 26, 27, 28, 29, 30, 31, 32, 33, 34, 35, 36, 37, 51, 52, 53, 54, 38, 39, 40, 41, 42, 43, 44, 45, 46, 47, 48, 49, 50, 63, 64, 65, 66, 67, 68, 69, 70, 71, 55, 56, 57, 58, 59, 60] (by decide +kernel) (by decide +kernel)
set_option maxRecDepth 20000 in
theorem gX6_sendPending_X6_giveTo : GoodIn wsX6_sendPending (wsV RX6 256 RX6 yX6_giveTo wsX6_giveTo) := goodIn_app (goodIn_of _ (by decide +kernel)) ggX6_sendPending_X6_giveTo
theorem dX6_sendPending_0 : decode cX6_sendPending 0 = .ok (.aload_n 1, 1) := by decide +kernel
theorem dX6_sendPending_1 : decode cX6_sendPending 1 = .ok (.getfield 80, 3) := by decide +kernel
theorem dX6_sendPending_4 : decode cX6_sendPending 4 = .ok (.astore_n 3, 1) := by decide +kernel
theorem dX6_sendPending_5 : decode cX6_sendPending 5 = .ok (.iconst 0, 1) := by decide +kernel
theorem dX6_sendPending_6 : decode cX6_sendPending 6 = .ok (.istore 4, 2) := by decide +kernel
theorem dX6_sendPending_8 : decode cX6_sendPending 8 = .ok (.iload 4, 2) := by decide +kernel
theorem dX6_sendPending_10 : decode cX6_sendPending 10 = .ok (.aload_n 0, 1) := by decide +kernel
theorem dX6_sendPending_11 : decode cX6_sendPending 11 = .ok (.getfield 18, 3) := by decide +kernel
theorem dX6_sendPending_14 : decode cX6_sendPending 14 = .ok (.if_icmp .ge 61, 3) := by decide +kernel
theorem dX6_sendPending_17 : decode cX6_sendPending 17 = .ok (.aload_n 3, 1) := by decide +kernel
theorem dX6_sendPending_18 : decode cX6_sendPending 18 = .ok (.getfield 245, 3) := by decide +kernel
theorem dX6_sendPending_21 : decode cX6_sendPending 21 = .ok (.bipush 100, 2) := by decide +kernel
theorem dX6_sendPending_23 : decode cX6_sendPending 23 = .ok (.if_icmp .ge 52, 3) := by decide +kernel
theorem dX6_sendPending_26 : decode cX6_sendPending 26 = .ok (.aload_n 1, 1) := by decide +kernel
theorem dX6_sendPending_27 : decode cX6_sendPending 27 = .ok (.getfield 54, 3) := by decide +kernel
theorem dX6_sendPending_30 : decode cX6_sendPending 30 = .ok (.invokevirtual 260, 3) := by decide +kernel
theorem dX6_sendPending_33 : decode cX6_sendPending 33 = .ok (.astore 5, 2) := by decide +kernel
theorem dX6_sendPending_35 : decode cX6_sendPending 35 = .ok (.aload 5, 2) := by decide +kernel
theorem dX6_sendPending_37 : decode cX6_sendPending 37 = .ok (.ifnonnull 4, 3) := by decide +kernel
theorem dX6_sendPending_40 : decode cX6_sendPending 40 = .ok (.return_, 1) := by decide +kernel
theorem dX6_sendPending_41 : decode cX6_sendPending 41 = .ok (.aload_n 3, 1) := by decide +kernel
theorem dX6_sendPending_42 : decode cX6_sendPending 42 = .ok (.dup, 1) := by decide +kernel
theorem dX6_sendPending_43 : decode cX6_sendPending 43 = .ok (.getfield 245, 3) := by decide +kernel
theorem dX6_sendPending_46 : decode cX6_sendPending 46 = .ok (.iconst 1, 1) := by decide +kernel
theorem dX6_sendPending_47 : decode cX6_sendPending 47 = .ok (.iadd, 1) := by decide +kernel
theorem dX6_sendPending_48 : decode cX6_sendPending 48 = .ok (.putfield 245, 3) := by decide +kernel
theorem dX6_sendPending_51 : decode cX6_sendPending 51 = .ok (.aload_n 0, 1) := by decide +kernel
theorem dX6_sendPending_52 : decode cX6_sendPending 52 = .ok (.iload_n 2, 1) := by decide +kernel
theorem dX6_sendPending_53 : decode cX6_sendPending 53 = .ok (.iconst 1, 1) := by decide +kernel
theorem dX6_sendPending_54 : decode cX6_sendPending 54 = .ok (.aload_n 1, 1) := by decide +kernel
theorem dX6_sendPending_55 : decode cX6_sendPending 55 = .ok (.getfield 244, 3) := by decide +kernel
theorem dX6_sendPending_58 : decode cX6_sendPending 58 = .ok (.ishl, 1) := by decide +kernel
theorem dX6_sendPending_59 : decode cX6_sendPending 59 = .ok (.ior, 1) := by decide +kernel
theorem dX6_sendPending_60 : decode cX6_sendPending 60 = .ok (.aload_n 3, 1) := by decide +kernel
theorem dX6_sendPending_61 : decode cX6_sendPending 61 = .ok (.getfield 245, 3) := by decide +kernel
theorem dX6_sendPending_64 : decode cX6_sendPending 64 = .ok (.aload 5, 2) := by decide +kernel
theorem dX6_sendPending_66 : decode cX6_sendPending 66 = .ok (.invokevirtual 256, 3) := by decide +kernel
theorem dX6_sendPending_69 : decode cX6_sendPending 69 = .ok (.iinc 4 1, 3) := by decide +kernel
theorem dX6_sendPending_72 : decode cX6_sendPending 72 = .ok (.goto (-64), 3) := by decide +kernel
theorem dX6_sendPending_75 : decode cX6_sendPending 75 = .ok (.return_, 1) := by decide +kernel
set_option maxRecDepth 20000 in
theorem ggX6_giveTo_X6_isIn : GoodIn wsX6_giveTo wsX6_isIn := goodIn_r _ [6] (by decide +kernel) (by decide +kernel)
set_option maxRecDepth 20000 in
theorem gX6_giveTo_X6_isIn : GoodIn wsX6_giveTo (va_wsS RX6 237 yX6_isIn wsX6_isIn) := goodIn_app (goodIn_of _ (by decide +kernel)) ggX6_giveTo_X6_isIn
set_option maxRecDepth 20000 in
theorem ggX6_giveTo_X2_receive : GoodIn wsX6_giveTo wsX2_receive := goodIn_r _ [11, 12, 13, 14, 15, 16, 17, 18, 10, 19, 20, 21, 22, 27, 28, 29, 30, 31, 32, 33, 34, 35, 36, 37, 38, 39, 40, 41, 42, 43, 44, 45, 46, 47, 48, 49, 50, 51, 52, 53, 54] (by decide +kernel) (by decide +kernel)
set_option maxRecDepth 20000 in
theorem gX6_giveTo_X2_receive : GoodIn wsX6_giveTo (wsV RX6 264 RX2 yX2_receive wsX2_receive) := goodIn_app (goodIn_of _ (by decide +kernel)) ggX6_giveTo_X2_receive
theorem dX6_giveTo_0 : decode cX6_giveTo 0 = .ok (.aload_n 0, 1) := by decide +kernel
theorem dX6_giveTo_1 : decode cX6_giveTo 1 = .ok (.getfield 31, 3) := by decide +kernel
theorem dX6_giveTo_4 : decode cX6_giveTo 4 = .ok (.astore 4, 2) := by decide +kernel
theorem dX6_giveTo_6 : decode cX6_giveTo 6 = .ok (.aload 4, 2) := by decide +kernel
theorem dX6_giveTo_8 : decode cX6_giveTo 8 = .ok (.arraylength, 1) := by decide +kernel
theorem dX6_giveTo_9 : decode cX6_giveTo 9 = .ok (.istore 5, 2) := by decide +kernel
theorem dX6_giveTo_11 : decode cX6_giveTo 11 = .ok (.iconst 0, 1) := by decide +kernel
theorem dX6_giveTo_12 : decode cX6_giveTo 12 = .ok (.istore 6, 2) := by decide +kernel
theorem dX6_giveTo_14 : decode cX6_giveTo 14 = .ok (.iload 6, 2) := by decide +kernel
theorem dX6_giveTo_16 : decode cX6_giveTo 16 = .ok (.iload 5, 2) := by decide +kernel
theorem dX6_giveTo_18 : decode cX6_giveTo 18 = .ok (.if_icmp .ge 35, 3) := by decide +kernel
theorem dX6_giveTo_21 : decode cX6_giveTo 21 = .ok (.aload 4, 2) := by decide +kernel
theorem dX6_giveTo_23 : decode cX6_giveTo 23 = .ok (.iload 6, 2) := by decide +kernel
theorem dX6_giveTo_25 : decode cX6_giveTo 25 = .ok (.aaload, 1) := by decide +kernel
theorem dX6_giveTo_26 : decode cX6_giveTo 26 = .ok (.astore 7, 2) := by decide +kernel
theorem dX6_giveTo_28 : decode cX6_giveTo 28 = .ok (.aload 7, 2) := by decide +kernel
theorem dX6_giveTo_30 : decode cX6_giveTo 30 = .ok (.getfield 244, 3) := by decide +kernel
theorem dX6_giveTo_33 : decode cX6_giveTo 33 = .ok (.iload_n 1, 1) := by decide +kernel
theorem dX6_giveTo_34 : decode cX6_giveTo 34 = .ok (.invokestatic 237, 3) := by decide +kernel
theorem dX6_giveTo_37 : decode cX6_giveTo 37 = .ok (.ifCond .eq 10, 3) := by decide +kernel
theorem dX6_giveTo_40 : decode cX6_giveTo 40 = .ok (.aload 7, 2) := by decide +kernel
theorem dX6_giveTo_42 : decode cX6_giveTo 42 = .ok (.iload_n 2, 1) := by decide +kernel
theorem dX6_giveTo_43 : decode cX6_giveTo 43 = .ok (.aload_n 3, 1) := by decide +kernel
theorem dX6_giveTo_44 : decode cX6_giveTo 44 = .ok (.invokevirtual 264, 3) := by decide +kernel
theorem dX6_giveTo_47 : decode cX6_giveTo 47 = .ok (.iinc 6 1, 3) := by decide +kernel
theorem dX6_giveTo_50 : decode cX6_giveTo 50 = .ok (.goto (-36), 3) := by decide +kernel
theorem dX6_giveTo_53 : decode cX6_giveTo 53 = .ok (.return_, 1) := by decide +kernel
theorem dX6_requestMissing_0 : decode cX6_requestMissing 0 = .ok (.aload_n 0, 1) := by decide +kernel
theorem dX6_requestMissing_1 : decode cX6_requestMissing 1 = .ok (.getfield 80, 3) := by decide +kernel
theorem dX6_requestMissing_4 : decode cX6_requestMissing 4 = .ok (.astore_n 1, 1) := by decide +kernel
theorem dX6_requestMissing_5 : decode cX6_requestMissing 5 = .ok (.iconst 1, 1) := by decide +kernel
theorem dX6_requestMissing_6 : decode cX6_requestMissing 6 = .ok (.istore_n 2, 1) := by decide +kernel
theorem dX6_requestMissing_7 : decode cX6_requestMissing 7 = .ok (.iload_n 2, 1) := by decide +kernel
theorem dX6_requestMissing_8 : decode cX6_requestMissing 8 = .ok (.aload_n 1, 1) := by decide +kernel
theorem dX6_requestMissing_9 : decode cX6_requestMissing 9 = .ok (.getfield 245, 3) := by decide +kernel
theorem dX6_requestMissing_12 : decode cX6_requestMissing 12 = .ok (.if_icmp .gt 25, 3) := by decide +kernel
theorem dX6_requestMissing_15 : decode cX6_requestMissing 15 = .ok (.aload_n 0, 1) := by decide +kernel
theorem dX6_requestMissing_16 : decode cX6_requestMissing 16 = .ok (.getfield 252, 3) := by decide +kernel
theorem dX6_requestMissing_19 : decode cX6_requestMissing 19 = .ok (.iload_n 2, 1) := by decide +kernel
theorem dX6_requestMissing_20 : decode cX6_requestMissing 20 = .ok (.aaload, 1) := by decide +kernel
theorem dX6_requestMissing_21 : decode cX6_requestMissing 21 = .ok (.ifnonnull 10, 3) := by decide +kernel
theorem dX6_requestMissing_24 : decode cX6_requestMissing 24 = .ok (.aload_n 1, 1) := by decide +kernel
theorem dX6_requestMissing_25 : decode cX6_requestMissing 25 = .ok (.getfield 248, 3) := by decide +kernel
theorem dX6_requestMissing_28 : decode cX6_requestMissing 28 = .ok (.iload_n 2, 1) := by decide +kernel
theorem dX6_requestMissing_29 : decode cX6_requestMissing 29 = .ok (.iconst 1, 1) := by decide +kernel
theorem dX6_requestMissing_30 : decode cX6_requestMissing 30 = .ok (.bastore, 1) := by decide +kernel
theorem dX6_requestMissing_31 : decode cX6_requestMissing 31 = .ok (.iinc 2 1, 3) := by decide +kernel
theorem dX6_requestMissing_34 : decode cX6_requestMissing 34 = .ok (.goto (-27), 3) := by decide +kernel
theorem dX6_requestMissing_37 : decode cX6_requestMissing 37 = .ok (.return_, 1) := by decide +kernel
set_option maxRecDepth 20000 in
theorem ggX6_handOn_X5_memberBehind : GoodIn wsX6_handOn wsX5_memberBehind := goodIn_r _ [9, 10, 11, 12, 13, 36, 37, 38, 39, 40, 41] (by decide +kernel) (by decide +kernel)
set_option maxRecDepth 20000 in
theorem gX6_handOn_X5_memberBehind : GoodIn wsX6_handOn (wsV RX6 268 RX5 yX5_memberBehind wsX5_memberBehind) := goodIn_app (goodIn_of _ (by decide +kernel)) ggX6_handOn_X5_memberBehind
set_option maxRecDepth 20000 in
theorem ggX6_handOn_X6_reaches : GoodIn wsX6_handOn wsX6_reaches := goodIn_r _ [16, 17, 18, 1, 19, 20, 21, 22, 23, 24, 25, 26, 27, 28, 29, 30, 31] (by decide +kernel) (by decide +kernel)
set_option maxRecDepth 20000 in
theorem gX6_handOn_X6_reaches : GoodIn wsX6_handOn (va_wsS RX6 240 yX6_reaches wsX6_reaches) := goodIn_app (goodIn_of _ (by decide +kernel)) ggX6_handOn_X6_reaches
theorem dX6_handOn_0 : decode cX6_handOn 0 = .ok (.aload_n 1, 1) := by decide +kernel
theorem dX6_handOn_1 : decode cX6_handOn 1 = .ok (.getfield 80, 3) := by decide +kernel
theorem dX6_handOn_4 : decode cX6_handOn 4 = .ok (.astore_n 2, 1) := by decide +kernel
theorem dX6_handOn_5 : decode cX6_handOn 5 = .ok (.aload_n 0, 1) := by decide +kernel
theorem dX6_handOn_6 : decode cX6_handOn 6 = .ok (.getfield 31, 3) := by decide +kernel
theorem dX6_handOn_9 : decode cX6_handOn 9 = .ok (.aload_n 2, 1) := by decide +kernel
theorem dX6_handOn_10 : decode cX6_handOn 10 = .ok (.aload_n 1, 1) := by decide +kernel
theorem dX6_handOn_11 : decode cX6_handOn 11 = .ok (.getfield 244, 3) := by decide +kernel
theorem dX6_handOn_14 : decode cX6_handOn 14 = .ok (.invokevirtual 268, 3) := by decide +kernel
theorem dX6_handOn_17 : decode cX6_handOn 17 = .ok (.aaload, 1) := by decide +kernel
theorem dX6_handOn_18 : decode cX6_handOn 18 = .ok (.astore_n 3, 1) := by decide +kernel
theorem dX6_handOn_19 : decode cX6_handOn 19 = .ok (.aload_n 2, 1) := by decide +kernel
theorem dX6_handOn_20 : decode cX6_handOn 20 = .ok (.aload_n 1, 1) := by decide +kernel
theorem dX6_handOn_21 : decode cX6_handOn 21 = .ok (.aload_n 3, 1) := by decide +kernel
theorem dX6_handOn_22 : decode cX6_handOn 22 = .ok (.invokestatic 240, 3) := by decide +kernel
theorem dX6_handOn_25 : decode cX6_handOn 25 = .ok (.ifCond .eq 10, 3) := by decide +kernel
theorem dX6_handOn_28 : decode cX6_handOn 28 = .ok (.aload_n 3, 1) := by decide +kernel
theorem dX6_handOn_29 : decode cX6_handOn 29 = .ok (.getfield 244, 3) := by decide +kernel
theorem dX6_handOn_32 : decode cX6_handOn 32 = .ok (.goto 4, 3) := by decide +kernel
theorem dX6_handOn_35 : decode cX6_handOn 35 = .ok (.iconst (-1), 1) := by decide +kernel
theorem dX6_handOn_36 : decode cX6_handOn 36 = .ok (.putfield 83, 3) := by decide +kernel
theorem dX6_handOn_39 : decode cX6_handOn 39 = .ok (.return_, 1) := by decide +kernel
theorem dX6_upInGroup_0 : decode cX6_upInGroup 0 = .ok (.iconst 0, 1) := by decide +kernel
theorem dX6_upInGroup_1 : decode cX6_upInGroup 1 = .ok (.istore_n 2, 1) := by decide +kernel
theorem dX6_upInGroup_2 : decode cX6_upInGroup 2 = .ok (.aload_n 0, 1) := by decide +kernel
theorem dX6_upInGroup_3 : decode cX6_upInGroup 3 = .ok (.getfield 31, 3) := by decide +kernel
theorem dX6_upInGroup_6 : decode cX6_upInGroup 6 = .ok (.astore_n 3, 1) := by decide +kernel
theorem dX6_upInGroup_7 : decode cX6_upInGroup 7 = .ok (.aload_n 3, 1) := by decide +kernel
theorem dX6_upInGroup_8 : decode cX6_upInGroup 8 = .ok (.arraylength, 1) := by decide +kernel
theorem dX6_upInGroup_9 : decode cX6_upInGroup 9 = .ok (.istore 4, 2) := by decide +kernel
theorem dX6_upInGroup_11 : decode cX6_upInGroup 11 = .ok (.iconst 0, 1) := by decide +kernel
theorem dX6_upInGroup_12 : decode cX6_upInGroup 12 = .ok (.istore 5, 2) := by decide +kernel
theorem dX6_upInGroup_14 : decode cX6_upInGroup 14 = .ok (.iload 5, 2) := by decide +kernel
theorem dX6_upInGroup_16 : decode cX6_upInGroup 16 = .ok (.iload 4, 2) := by decide +kernel
theorem dX6_upInGroup_18 : decode cX6_upInGroup 18 = .ok (.if_icmp .ge 42, 3) := by decide +kernel
theorem dX6_upInGroup_21 : decode cX6_upInGroup 21 = .ok (.aload_n 3, 1) := by decide +kernel
theorem dX6_upInGroup_22 : decode cX6_upInGroup 22 = .ok (.iload 5, 2) := by decide +kernel
theorem dX6_upInGroup_24 : decode cX6_upInGroup 24 = .ok (.aaload, 1) := by decide +kernel
theorem dX6_upInGroup_25 : decode cX6_upInGroup 25 = .ok (.astore 6, 2) := by decide +kernel
theorem dX6_upInGroup_27 : decode cX6_upInGroup 27 = .ok (.aload 6, 2) := by decide +kernel
theorem dX6_upInGroup_29 : decode cX6_upInGroup 29 = .ok (.getfield 50, 3) := by decide +kernel
theorem dX6_upInGroup_32 : decode cX6_upInGroup 32 = .ok (.ifCond .eq 22, 3) := by decide +kernel
theorem dX6_upInGroup_35 : decode cX6_upInGroup 35 = .ok (.aload 6, 2) := by decide +kernel
theorem dX6_upInGroup_37 : decode cX6_upInGroup 37 = .ok (.getfield 124, 3) := by decide +kernel
theorem dX6_upInGroup_40 : decode cX6_upInGroup 40 = .ok (.iload_n 1, 1) := by decide +kernel
theorem dX6_upInGroup_41 : decode cX6_upInGroup 41 = .ok (.if_icmp .ne 13, 3) := by decide +kernel
theorem dX6_upInGroup_44 : decode cX6_upInGroup 44 = .ok (.iload_n 2, 1) := by decide +kernel
theorem dX6_upInGroup_45 : decode cX6_upInGroup 45 = .ok (.iconst 1, 1) := by decide +kernel
theorem dX6_upInGroup_46 : decode cX6_upInGroup 46 = .ok (.aload 6, 2) := by decide +kernel
theorem dX6_upInGroup_48 : decode cX6_upInGroup 48 = .ok (.getfield 244, 3) := by decide +kernel
theorem dX6_upInGroup_51 : decode cX6_upInGroup 51 = .ok (.ishl, 1) := by decide +kernel
theorem dX6_upInGroup_52 : decode cX6_upInGroup 52 = .ok (.ior, 1) := by decide +kernel
theorem dX6_upInGroup_53 : decode cX6_upInGroup 53 = .ok (.istore_n 2, 1) := by decide +kernel
theorem dX6_upInGroup_54 : decode cX6_upInGroup 54 = .ok (.iinc 5 1, 3) := by decide +kernel
theorem dX6_upInGroup_57 : decode cX6_upInGroup 57 = .ok (.goto (-43), 3) := by decide +kernel
theorem dX6_upInGroup_60 : decode cX6_upInGroup 60 = .ok (.iload_n 2, 1) := by decide +kernel
theorem dX6_upInGroup_61 : decode cX6_upInGroup 61 = .ok (.ireturn, 1) := by decide +kernel
set_option maxRecDepth 20000 in
theorem ggX6_ofRing_X6_isIn : GoodIn wsX6_ofRing wsX6_isIn := goodIn_r _ [7] (by decide +kernel) (by decide +kernel)
set_option maxRecDepth 20000 in
theorem gX6_ofRing_X6_isIn : GoodIn wsX6_ofRing (va_wsS RX6 237 yX6_isIn wsX6_isIn) := goodIn_app (goodIn_of _ (by decide +kernel)) ggX6_ofRing_X6_isIn
theorem dX6_ofRing_0 : decode cX6_ofRing 0 = .ok (.iconst 0, 1) := by decide +kernel
theorem dX6_ofRing_1 : decode cX6_ofRing 1 = .ok (.istore_n 3, 1) := by decide +kernel
theorem dX6_ofRing_2 : decode cX6_ofRing 2 = .ok (.aload_n 0, 1) := by decide +kernel
theorem dX6_ofRing_3 : decode cX6_ofRing 3 = .ok (.getfield 31, 3) := by decide +kernel
theorem dX6_ofRing_6 : decode cX6_ofRing 6 = .ok (.astore 4, 2) := by decide +kernel
theorem dX6_ofRing_8 : decode cX6_ofRing 8 = .ok (.aload 4, 2) := by decide +kernel
theorem dX6_ofRing_10 : decode cX6_ofRing 10 = .ok (.arraylength, 1) := by decide +kernel
theorem dX6_ofRing_11 : decode cX6_ofRing 11 = .ok (.istore 5, 2) := by decide +kernel
theorem dX6_ofRing_13 : decode cX6_ofRing 13 = .ok (.iconst 0, 1) := by decide +kernel
theorem dX6_ofRing_14 : decode cX6_ofRing 14 = .ok (.istore 6, 2) := by decide +kernel
theorem dX6_ofRing_16 : decode cX6_ofRing 16 = .ok (.iload 6, 2) := by decide +kernel
theorem dX6_ofRing_18 : decode cX6_ofRing 18 = .ok (.iload 5, 2) := by decide +kernel
theorem dX6_ofRing_20 : decode cX6_ofRing 20 = .ok (.if_icmp .ge 47, 3) := by decide +kernel
theorem dX6_ofRing_23 : decode cX6_ofRing 23 = .ok (.aload 4, 2) := by decide +kernel
theorem dX6_ofRing_25 : decode cX6_ofRing 25 = .ok (.iload 6, 2) := by decide +kernel
theorem dX6_ofRing_27 : decode cX6_ofRing 27 = .ok (.aaload, 1) := by decide +kernel
theorem dX6_ofRing_28 : decode cX6_ofRing 28 = .ok (.astore 7, 2) := by decide +kernel
theorem dX6_ofRing_30 : decode cX6_ofRing 30 = .ok (.aload 7, 2) := by decide +kernel
theorem dX6_ofRing_32 : decode cX6_ofRing 32 = .ok (.getfield 80, 3) := by decide +kernel
theorem dX6_ofRing_35 : decode cX6_ofRing 35 = .ok (.aload_n 1, 1) := by decide +kernel
theorem dX6_ofRing_36 : decode cX6_ofRing 36 = .ok (.if_acmp .ne 25, 3) := by decide +kernel
theorem dX6_ofRing_39 : decode cX6_ofRing 39 = .ok (.aload 7, 2) := by decide +kernel
theorem dX6_ofRing_41 : decode cX6_ofRing 41 = .ok (.getfield 244, 3) := by decide +kernel
theorem dX6_ofRing_44 : decode cX6_ofRing 44 = .ok (.iload_n 2, 1) := by decide +kernel
theorem dX6_ofRing_45 : decode cX6_ofRing 45 = .ok (.invokestatic 237, 3) := by decide +kernel
theorem dX6_ofRing_48 : decode cX6_ofRing 48 = .ok (.ifCond .eq 13, 3) := by decide +kernel
theorem dX6_ofRing_51 : decode cX6_ofRing 51 = .ok (.iload_n 3, 1) := by decide +kernel
theorem dX6_ofRing_52 : decode cX6_ofRing 52 = .ok (.iconst 1, 1) := by decide +kernel
theorem dX6_ofRing_53 : decode cX6_ofRing 53 = .ok (.aload 7, 2) := by decide +kernel
theorem dX6_ofRing_55 : decode cX6_ofRing 55 = .ok (.getfield 244, 3) := by decide +kernel
theorem dX6_ofRing_58 : decode cX6_ofRing 58 = .ok (.ishl, 1) := by decide +kernel
theorem dX6_ofRing_59 : decode cX6_ofRing 59 = .ok (.ior, 1) := by decide +kernel
theorem dX6_ofRing_60 : decode cX6_ofRing 60 = .ok (.istore_n 3, 1) := by decide +kernel
theorem dX6_ofRing_61 : decode cX6_ofRing 61 = .ok (.iinc 6 1, 3) := by decide +kernel
theorem dX6_ofRing_64 : decode cX6_ofRing 64 = .ok (.goto (-48), 3) := by decide +kernel
theorem dX6_ofRing_67 : decode cX6_ofRing 67 = .ok (.iload_n 3, 1) := by decide +kernel
theorem dX6_ofRing_68 : decode cX6_ofRing 68 = .ok (.ireturn, 1) := by decide +kernel
set_option maxRecDepth 20000 in
theorem ggX6_isWhole_X6_ofRing : GoodIn wsX6_isWhole wsX6_ofRing := goodIn_r _ [7, 8, 9, 10, 11, 12, 6, 13, 20, 21, 22, 23, 24, 25, 26, 27, 28, 29, 30, 31, 32, 33, 34, 35, 36] (by decide +kernel) (by decide +kernel)
set_option maxRecDepth 20000 in
theorem gX6_isWhole_X6_ofRing : GoodIn wsX6_isWhole (wsV RX6 271 RX6 yX6_ofRing wsX6_ofRing) := goodIn_app (goodIn_of _ (by decide +kernel)) ggX6_isWhole_X6_ofRing
theorem dX6_isWhole_0 : decode cX6_isWhole 0 = .ok (.aload_n 1, 1) := by decide +kernel
theorem dX6_isWhole_1 : decode cX6_isWhole 1 = .ok (.getfield 173, 3) := by decide +kernel
theorem dX6_isWhole_4 : decode cX6_isWhole 4 = .ok (.iload_n 2, 1) := by decide +kernel
theorem dX6_isWhole_5 : decode cX6_isWhole 5 = .ok (.if_icmp .ne 25, 3) := by decide +kernel
theorem dX6_isWhole_8 : decode cX6_isWhole 8 = .ok (.aload_n 1, 1) := by decide +kernel
theorem dX6_isWhole_9 : decode cX6_isWhole 9 = .ok (.getfield 83, 3) := by decide +kernel
theorem dX6_isWhole_12 : decode cX6_isWhole 12 = .ok (.iconst (-1), 1) := by decide +kernel
theorem dX6_isWhole_13 : decode cX6_isWhole 13 = .ok (.if_icmp .eq 17, 3) := by decide +kernel
theorem dX6_isWhole_16 : decode cX6_isWhole 16 = .ok (.aload_n 0, 1) := by decide +kernel
theorem dX6_isWhole_17 : decode cX6_isWhole 17 = .ok (.aload_n 1, 1) := by decide +kernel
theorem dX6_isWhole_18 : decode cX6_isWhole 18 = .ok (.iload_n 2, 1) := by decide +kernel
theorem dX6_isWhole_19 : decode cX6_isWhole 19 = .ok (.invokevirtual 271, 3) := by decide +kernel
theorem dX6_isWhole_22 : decode cX6_isWhole 22 = .ok (.iload_n 2, 1) := by decide +kernel
theorem dX6_isWhole_23 : decode cX6_isWhole 23 = .ok (.if_icmp .ne 7, 3) := by decide +kernel
theorem dX6_isWhole_26 : decode cX6_isWhole 26 = .ok (.iconst 1, 1) := by decide +kernel
theorem dX6_isWhole_27 : decode cX6_isWhole 27 = .ok (.goto 4, 3) := by decide +kernel
theorem dX6_isWhole_30 : decode cX6_isWhole 30 = .ok (.iconst 0, 1) := by decide +kernel
theorem dX6_isWhole_31 : decode cX6_isWhole 31 = .ok (.ireturn, 1) := by decide +kernel
set_option maxRecDepth 20000 in
theorem ggX6_foremost_X6_isIn : GoodIn wsX6_foremost wsX6_isIn := goodIn_r _ [6] (by decide +kernel) (by decide +kernel)
set_option maxRecDepth 20000 in
theorem gX6_foremost_X6_isIn : GoodIn wsX6_foremost (va_wsS RX6 237 yX6_isIn wsX6_isIn) := goodIn_app (goodIn_of _ (by decide +kernel)) ggX6_foremost_X6_isIn
set_option maxRecDepth 20000 in
theorem ggX6_foremost_X2_isAheadOf : GoodIn wsX6_foremost wsX2_isAheadOf := goodIn_r _ [11, 12, 13, 14, 15, 20, 21, 22, 23, 24, 25, 26, 27, 28, 29, 30, 31, 32, 33, 34, 35, 36, 37] (by decide +kernel) (by decide +kernel)
set_option maxRecDepth 20000 in
theorem gX6_foremost_X2_isAheadOf : GoodIn wsX6_foremost (wsV RX6 275 RX2 yX2_isAheadOf wsX2_isAheadOf) := goodIn_app (goodIn_of _ (by decide +kernel)) ggX6_foremost_X2_isAheadOf
theorem dX6_foremost_0 : decode cX6_foremost 0 = .ok (.aload_n 1, 1) := by decide +kernel
theorem dX6_foremost_1 : decode cX6_foremost 1 = .ok (.astore_n 3, 1) := by decide +kernel
theorem dX6_foremost_2 : decode cX6_foremost 2 = .ok (.aload_n 0, 1) := by decide +kernel
theorem dX6_foremost_3 : decode cX6_foremost 3 = .ok (.getfield 31, 3) := by decide +kernel
theorem dX6_foremost_6 : decode cX6_foremost 6 = .ok (.astore 4, 2) := by decide +kernel
theorem dX6_foremost_8 : decode cX6_foremost 8 = .ok (.aload 4, 2) := by decide +kernel
theorem dX6_foremost_10 : decode cX6_foremost 10 = .ok (.arraylength, 1) := by decide +kernel
theorem dX6_foremost_11 : decode cX6_foremost 11 = .ok (.istore 5, 2) := by decide +kernel
theorem dX6_foremost_13 : decode cX6_foremost 13 = .ok (.iconst 0, 1) := by decide +kernel
theorem dX6_foremost_14 : decode cX6_foremost 14 = .ok (.istore 6, 2) := by decide +kernel
theorem dX6_foremost_16 : decode cX6_foremost 16 = .ok (.iload 6, 2) := by decide +kernel
theorem dX6_foremost_18 : decode cX6_foremost 18 = .ok (.iload 5, 2) := by decide +kernel
theorem dX6_foremost_20 : decode cX6_foremost 20 = .ok (.if_icmp .ge 40, 3) := by decide +kernel
theorem dX6_foremost_23 : decode cX6_foremost 23 = .ok (.aload 4, 2) := by decide +kernel
theorem dX6_foremost_25 : decode cX6_foremost 25 = .ok (.iload 6, 2) := by decide +kernel
theorem dX6_foremost_27 : decode cX6_foremost 27 = .ok (.aaload, 1) := by decide +kernel
theorem dX6_foremost_28 : decode cX6_foremost 28 = .ok (.astore 7, 2) := by decide +kernel
theorem dX6_foremost_30 : decode cX6_foremost 30 = .ok (.aload 7, 2) := by decide +kernel
theorem dX6_foremost_32 : decode cX6_foremost 32 = .ok (.getfield 244, 3) := by decide +kernel
theorem dX6_foremost_35 : decode cX6_foremost 35 = .ok (.iload_n 2, 1) := by decide +kernel
theorem dX6_foremost_36 : decode cX6_foremost 36 = .ok (.invokestatic 237, 3) := by decide +kernel
theorem dX6_foremost_39 : decode cX6_foremost 39 = .ok (.ifCond .eq 15, 3) := by decide +kernel
theorem dX6_foremost_42 : decode cX6_foremost 42 = .ok (.aload 7, 2) := by decide +kernel
theorem dX6_foremost_44 : decode cX6_foremost 44 = .ok (.aload_n 3, 1) := by decide +kernel
theorem dX6_foremost_45 : decode cX6_foremost 45 = .ok (.invokevirtual 275, 3) := by decide +kernel
theorem dX6_foremost_48 : decode cX6_foremost 48 = .ok (.ifCond .eq 6, 3) := by decide +kernel
theorem dX6_foremost_51 : decode cX6_foremost 51 = .ok (.aload 7, 2) := by decide +kernel
theorem dX6_foremost_53 : decode cX6_foremost 53 = .ok (.astore_n 3, 1) := by decide +kernel
theorem dX6_foremost_54 : decode cX6_foremost 54 = .ok (.iinc 6 1, 3) := by decide +kernel
theorem dX6_foremost_57 : decode cX6_foremost 57 = .ok (.goto (-41), 3) := by decide +kernel
theorem dX6_foremost_60 : decode cX6_foremost 60 = .ok (.aload_n 3, 1) := by decide +kernel
theorem dX6_foremost_61 : decode cX6_foremost 61 = .ok (.areturn, 1) := by decide +kernel
set_option maxRecDepth 20000 in
theorem ggX6_isQuorum_J6_bitCount_0f7a4 : GoodIn wsX6_isQuorum wsJ6_bitCount_0f7a4 := goodIn_r _ [4, 5, 6, 7] (by decide +kernel) (by decide +kernel)
set_option maxRecDepth 20000 in
theorem gX6_isQuorum_J6_bitCount_0f7a4 : GoodIn wsX6_isQuorum (va_wsS RX6 279 yJ6_bitCount_0f7a4 wsJ6_bitCount_0f7a4) := goodIn_app (goodIn_of _ (by decide +kernel)) ggX6_isQuorum_J6_bitCount_0f7a4
set_option maxRecDepth 20000 in
theorem ggX6_isQuorum_X6_leastOf : GoodIn wsX6_isQuorum wsX6_leastOf := goodIn_r _ [11, 12, 13, 10, 14] (by decide +kernel) (by decide +kernel)
set_option maxRecDepth 20000 in
theorem gX6_isQuorum_X6_leastOf : GoodIn wsX6_isQuorum (va_wsS RX6 284 yX6_leastOf wsX6_leastOf) := goodIn_app (goodIn_of _ (by decide +kernel)) ggX6_isQuorum_X6_leastOf
set_option maxRecDepth 20000 in
theorem ggX6_isQuorum_X6_isIn : GoodIn wsX6_isQuorum wsX6_isIn := goodIn_r _ [14] (by decide +kernel) (by decide +kernel)
set_option maxRecDepth 20000 in
theorem gX6_isQuorum_X6_isIn : GoodIn wsX6_isQuorum (va_wsS RX6 237 yX6_isIn wsX6_isIn) := goodIn_app (goodIn_of _ (by decide +kernel)) ggX6_isQuorum_X6_isIn
theorem dX6_isQuorum_0 : decode cX6_isQuorum 0 = .ok (.iconst 2, 1) := by decide +kernel
theorem dX6_isQuorum_1 : decode cX6_isQuorum 1 = .ok (.iload_n 1, 1) := by decide +kernel
theorem dX6_isQuorum_2 : decode cX6_isQuorum 2 = .ok (.iload_n 0, 1) := by decide +kernel
theorem dX6_isQuorum_3 : decode cX6_isQuorum 3 = .ok (.iand, 1) := by decide +kernel
theorem dX6_isQuorum_4 : decode cX6_isQuorum 4 = .ok (.invokestatic 279, 3) := by decide +kernel
theorem dX6_isQuorum_7 : decode cX6_isQuorum 7 = .ok (.imul, 1) := by decide +kernel
theorem dX6_isQuorum_8 : decode cX6_isQuorum 8 = .ok (.istore_n 2, 1) := by decide +kernel
theorem dX6_isQuorum_9 : decode cX6_isQuorum 9 = .ok (.iload_n 1, 1) := by decide +kernel
theorem dX6_isQuorum_10 : decode cX6_isQuorum 10 = .ok (.invokestatic 279, 3) := by decide +kernel
theorem dX6_isQuorum_13 : decode cX6_isQuorum 13 = .ok (.istore_n 3, 1) := by decide +kernel
theorem dX6_isQuorum_14 : decode cX6_isQuorum 14 = .ok (.iload_n 2, 1) := by decide +kernel
theorem dX6_isQuorum_15 : decode cX6_isQuorum 15 = .ok (.iload_n 3, 1) := by decide +kernel
theorem dX6_isQuorum_16 : decode cX6_isQuorum 16 = .ok (.if_icmp .gt 19, 3) := by decide +kernel
theorem dX6_isQuorum_19 : decode cX6_isQuorum 19 = .ok (.iload_n 2, 1) := by decide +kernel
theorem dX6_isQuorum_20 : decode cX6_isQuorum 20 = .ok (.iload_n 3, 1) := by decide +kernel
theorem dX6_isQuorum_21 : decode cX6_isQuorum 21 = .ok (.if_icmp .ne 18, 3) := by decide +kernel
theorem dX6_isQuorum_24 : decode cX6_isQuorum 24 = .ok (.iload_n 1, 1) := by decide +kernel
theorem dX6_isQuorum_25 : decode cX6_isQuorum 25 = .ok (.invokestatic 284, 3) := by decide +kernel
theorem dX6_isQuorum_28 : decode cX6_isQuorum 28 = .ok (.iload_n 0, 1) := by decide +kernel
theorem dX6_isQuorum_29 : decode cX6_isQuorum 29 = .ok (.invokestatic 237, 3) := by decide +kernel
theorem dX6_isQuorum_32 : decode cX6_isQuorum 32 = .ok (.ifCond .eq 7, 3) := by decide +kernel
theorem dX6_isQuorum_35 : decode cX6_isQuorum 35 = .ok (.iconst 1, 1) := by decide +kernel
theorem dX6_isQuorum_36 : decode cX6_isQuorum 36 = .ok (.goto 4, 3) := by decide +kernel
theorem dX6_isQuorum_39 : decode cX6_isQuorum 39 = .ok (.iconst 0, 1) := by decide +kernel
theorem dX6_isQuorum_40 : decode cX6_isQuorum 40 = .ok (.ireturn, 1) := by decide +kernel
set_option maxRecDepth 20000 in
theorem ggX6_endOldRings_X6_isIn : GoodIn wsX6_endOldRings wsX6_isIn := goodIn_r _ [8] (by decide +kernel) (by decide +kernel)
set_option maxRecDepth 20000 in
theorem gX6_endOldRings_X6_isIn : GoodIn wsX6_endOldRings (va_wsS RX6 237 yX6_isIn wsX6_isIn) := goodIn_app (goodIn_of _ (by decide +kernel)) ggX6_endOldRings_X6_isIn
set_option maxRecDepth 20000 in
theorem ggX6_endOldRings_X6_ofRing : GoodIn wsX6_endOldRings wsX6_ofRing := goodIn_r _ [12, 1, 2, 4, 5, 6, 7, 8, 94, 95, 96, 97, 98, 99, 100, 101, 102, 103, 104, 105, 106, 107, 108, 109, 110] (by decide +kernel) (by decide +kernel)
set_option maxRecDepth 20000 in
theorem gX6_endOldRings_X6_ofRing : GoodIn wsX6_endOldRings (wsV RX6 271 RX6 yX6_ofRing wsX6_ofRing) := goodIn_app (goodIn_of _ (by decide +kernel)) ggX6_endOldRings_X6_ofRing
set_option maxRecDepth 20000 in
theorem ggX6_endOldRings_X6_leastOf : GoodIn wsX6_endOldRings wsX6_leastOf := goodIn_r _ [15, 5, 6, 7, 8] (by decide +kernel) (by decide +kernel)
set_option maxRecDepth 20000 in
theorem gX6_endOldRings_X6_leastOf : GoodIn wsX6_endOldRings (va_wsS RX6 284 yX6_leastOf wsX6_leastOf) := goodIn_app (goodIn_of _ (by decide +kernel)) ggX6_endOldRings_X6_leastOf
set_option maxRecDepth 20000 in
theorem ggX6_endOldRings_X6_endRing : GoodIn wsX6_endOldRings wsX6_endRing := goodIn_r _ [19, 1, 4, 20, 2, 21, 22, 23, 24, 7, 25, 26, 27, 28, 29, 30, 31, 5, 6, 8, 32, 33, 34, 35, 36, 37, 38, 39, 40, 41, 42, 43, 44, 45, 46, 47, 48, 49, 50, 51, 52, 53, 54, 55, 56, 57, 58, 59, 60, 61, 62, 63, 64, 65, 66, 67, 68, 69, 70, 71, 72, 73, 74, 75, 76, 77, 78, 79, 80, 81, 82, 83, 84, 85, 86, 87, 88, 89, 90, 91, 92, 93, 94, 95, 96, 97, 98, 99, 100, 101, 102, 103, 104, 105, 106, 107, 108, 109, 110, 111, 112, 113, 114, 115, 116, 117, 118, 119, 120, 121, 122, 123, 124, 125, 126, 127] (by decide +kernel) (by decide +kernel)
set_option maxRecDepth 20000 in
theorem gX6_endOldRings_X6_endRing : GoodIn wsX6_endOldRings (wsV RX6 287 RX6 yX6_endRing wsX6_endRing) := goodIn_app (goodIn_of _ (by decide +kernel)) ggX6_endOldRings_X6_endRing
theorem dX6_endOldRings_0 : decode cX6_endOldRings 0 = .ok (.aload_n 0, 1) := by decide +kernel
theorem dX6_endOldRings_1 : decode cX6_endOldRings 1 = .ok (.getfield 31, 3) := by decide +kernel
theorem dX6_endOldRings_4 : decode cX6_endOldRings 4 = .ok (.astore_n 2, 1) := by decide +kernel
theorem dX6_endOldRings_5 : decode cX6_endOldRings 5 = .ok (.aload_n 2, 1) := by decide +kernel
theorem dX6_endOldRings_6 : decode cX6_endOldRings 6 = .ok (.arraylength, 1) := by decide +kernel
theorem dX6_endOldRings_7 : decode cX6_endOldRings 7 = .ok (.istore_n 3, 1) := by decide +kernel
theorem dX6_endOldRings_8 : decode cX6_endOldRings 8 = .ok (.iconst 0, 1) := by decide +kernel
theorem dX6_endOldRings_9 : decode cX6_endOldRings 9 = .ok (.istore 4, 2) := by decide +kernel
theorem dX6_endOldRings_11 : decode cX6_endOldRings 11 = .ok (.iload 4, 2) := by decide +kernel
theorem dX6_endOldRings_13 : decode cX6_endOldRings 13 = .ok (.iload_n 3, 1) := by decide +kernel
theorem dX6_endOldRings_14 : decode cX6_endOldRings 14 = .ok (.if_icmp .ge 70, 3) := by decide +kernel
theorem dX6_endOldRings_17 : decode cX6_endOldRings 17 = .ok (.aload_n 2, 1) := by decide +kernel
theorem dX6_endOldRings_18 : decode cX6_endOldRings 18 = .ok (.iload 4, 2) := by decide +kernel
theorem dX6_endOldRings_20 : decode cX6_endOldRings 20 = .ok (.aaload, 1) := by decide +kernel
theorem dX6_endOldRings_21 : decode cX6_endOldRings 21 = .ok (.astore 5, 2) := by decide +kernel
theorem dX6_endOldRings_23 : decode cX6_endOldRings 23 = .ok (.aload 5, 2) := by decide +kernel
theorem dX6_endOldRings_25 : decode cX6_endOldRings 25 = .ok (.getfield 80, 3) := by decide +kernel
theorem dX6_endOldRings_28 : decode cX6_endOldRings 28 = .ok (.aload_n 0, 1) := by decide +kernel
theorem dX6_endOldRings_29 : decode cX6_endOldRings 29 = .ok (.getfield 25, 3) := by decide +kernel
theorem dX6_endOldRings_32 : decode cX6_endOldRings 32 = .ok (.if_acmp .eq 46, 3) := by decide +kernel
theorem dX6_endOldRings_35 : decode cX6_endOldRings 35 = .ok (.aload 5, 2) := by decide +kernel
theorem dX6_endOldRings_37 : decode cX6_endOldRings 37 = .ok (.getfield 244, 3) := by decide +kernel
theorem dX6_endOldRings_40 : decode cX6_endOldRings 40 = .ok (.iload_n 1, 1) := by decide +kernel
theorem dX6_endOldRings_41 : decode cX6_endOldRings 41 = .ok (.invokestatic 237, 3) := by decide +kernel
theorem dX6_endOldRings_44 : decode cX6_endOldRings 44 = .ok (.ifCond .eq 34, 3) := by decide +kernel
theorem dX6_endOldRings_47 : decode cX6_endOldRings 47 = .ok (.aload_n 0, 1) := by decide +kernel
theorem dX6_endOldRings_48 : decode cX6_endOldRings 48 = .ok (.aload 5, 2) := by decide +kernel
theorem dX6_endOldRings_50 : decode cX6_endOldRings 50 = .ok (.getfield 80, 3) := by decide +kernel
theorem dX6_endOldRings_53 : decode cX6_endOldRings 53 = .ok (.iload_n 1, 1) := by decide +kernel
theorem dX6_endOldRings_54 : decode cX6_endOldRings 54 = .ok (.invokevirtual 271, 3) := by decide +kernel
theorem dX6_endOldRings_57 : decode cX6_endOldRings 57 = .ok (.istore 6, 2) := by decide +kernel
theorem dX6_endOldRings_59 : decode cX6_endOldRings 59 = .ok (.iload 6, 2) := by decide +kernel
theorem dX6_endOldRings_61 : decode cX6_endOldRings 61 = .ok (.invokestatic 284, 3) := by decide +kernel
theorem dX6_endOldRings_64 : decode cX6_endOldRings 64 = .ok (.aload 5, 2) := by decide +kernel
theorem dX6_endOldRings_66 : decode cX6_endOldRings 66 = .ok (.getfield 244, 3) := by decide +kernel
theorem dX6_endOldRings_69 : decode cX6_endOldRings 69 = .ok (.if_icmp .ne 9, 3) := by decide +kernel
theorem dX6_endOldRings_72 : decode cX6_endOldRings 72 = .ok (.aload_n 0, 1) := by decide +kernel
theorem dX6_endOldRings_73 : decode cX6_endOldRings 73 = .ok (.iload 6, 2) := by decide +kernel
theorem dX6_endOldRings_75 : decode cX6_endOldRings 75 = .ok (.invokevirtual 287, 3) := by decide +kernel
theorem dX6_endOldRings_78 : decode cX6_endOldRings 78 = .ok (.iinc 4 1, 3) := by decide +kernel
theorem dX6_endOldRings_81 : decode cX6_endOldRings 81 = .ok (.goto (-70), 3) := by decide +kernel
theorem dX6_endOldRings_84 : decode cX6_endOldRings 84 = .ok (.return_, 1) := by decide +kernel
set_option maxRecDepth 20000 in
theorem ggX6_endRing_X6_shareAll : GoodIn wsX6_endRing wsX6_shareAll := goodIn_r _ [10, 1, 2, 11, 12, 13, 14, 15, 16, 17, 18, 9, 19, 20, 21, 22, 23, 24, 25, 26, 27, 28, 29, 30, 31, 32, 33, 34, 35, 36, 37, 38, 39, 82, 83, 84, 85, 86, 87, 88, 89, 90, 91, 92, 93, 94, 95, 96, 97, 98, 105, 106, 107, 108, 109, 110, 111, 112, 113, 99, 100, 101, 102, 103, 104] (by decide +kernel) (by decide +kernel)
set_option maxRecDepth 20000 in
theorem gX6_endRing_X6_shareAll : GoodIn wsX6_endRing (wsV RX6 290 RX6 yX6_shareAll wsX6_shareAll) := goodIn_app (goodIn_of _ (by decide +kernel)) ggX6_endRing_X6_shareAll
set_option maxRecDepth 20000 in
theorem ggX6_endRing_X6_isIn : GoodIn wsX6_endRing wsX6_isIn := goodIn_r _ [19] (by decide +kernel) (by decide +kernel)
set_option maxRecDepth 20000 in
theorem gX6_endRing_X6_isIn : GoodIn wsX6_endRing (va_wsS RX6 237 yX6_isIn wsX6_isIn) := goodIn_app (goodIn_of _ (by decide +kernel)) ggX6_endRing_X6_isIn
set_option maxRecDepth 20000 in
theorem ggX6_endRing_X2_deliverInTurn : GoodIn wsX6_endRing wsX2_deliverInTurn := goodIn_r _ [43, 44, 29, 30, 45, 31, 46, 47, 48, 27, 49, 50, 51, 52, 53, 37, 38, 54, 55, 56, 57, 58, 59, 60, 61, 62, 63, 64, 33, 34, 35, 36, 39, 65, 66, 67, 68, 69, 70, 71, 72, 73, 74, 75, 76, 86, 87, 88, 89, 90, 91, 92, 93, 94, 95, 96, 97, 98, 105, 106, 107, 108, 99, 100, 101, 102, 103, 104, 114, 115, 109, 110, 111, 112, 113] (by decide +kernel) (by decide +kernel)
set_option maxRecDepth 20000 in
theorem gX6_endRing_X2_deliverInTurn : GoodIn wsX6_endRing (wsV RX6 116 RX2 yX2_deliverInTurn wsX2_deliverInTurn) := goodIn_app (goodIn_of _ (by decide +kernel)) ggX6_endRing_X2_deliverInTurn
set_option maxRecDepth 20000 in
theorem ggX6_endRing_X0_add : GoodIn wsX6_endRing wsX0_add := goodIn_r _ [58, 59, 60, 61, 62, 63, 64, 114, 115] (by decide +kernel) (by decide +kernel)
set_option maxRecDepth 20000 in
theorem gX6_endRing_X0_add : GoodIn wsX6_endRing (wsV RX6 293 RX0 yX0_add wsX0_add) := goodIn_app (goodIn_of _ (by decide +kernel)) ggX6_endRing_X0_add
set_option maxRecDepth 20000 in
theorem ggX6_endRing_X2_deliverLeft : GoodIn wsX6_endRing wsX2_deliverLeft := goodIn_r _ [81, 44, 29, 51, 18, 9, 19, 46, 47, 48, 27, 49, 50, 52, 53, 37, 38, 54, 55, 56, 57, 58, 59, 60, 61, 62, 63, 64, 86, 87, 88, 89, 90, 91, 92, 93, 94, 95, 96, 97, 98, 105, 106, 107, 108, 99, 100, 101, 102, 103, 104, 114, 115] (by decide +kernel) (by decide +kernel)
set_option maxRecDepth 20000 in
theorem gX6_endRing_X2_deliverLeft : GoodIn wsX6_endRing (wsV RX6 297 RX2 yX2_deliverLeft wsX2_deliverLeft) := goodIn_app (goodIn_of _ (by decide +kernel)) ggX6_endRing_X2_deliverLeft
theorem dX6_endRing_0 : decode cX6_endRing 0 = .ok (.aload_n 0, 1) := by decide +kernel
theorem dX6_endRing_1 : decode cX6_endRing 1 = .ok (.iload_n 1, 1) := by decide +kernel
theorem dX6_endRing_2 : decode cX6_endRing 2 = .ok (.invokevirtual 290, 3) := by decide +kernel
theorem dX6_endRing_5 : decode cX6_endRing 5 = .ok (.aload_n 0, 1) := by decide +kernel
theorem dX6_endRing_6 : decode cX6_endRing 6 = .ok (.getfield 31, 3) := by decide +kernel
theorem dX6_endRing_9 : decode cX6_endRing 9 = .ok (.astore_n 2, 1) := by decide +kernel
theorem dX6_endRing_10 : decode cX6_endRing 10 = .ok (.aload_n 2, 1) := by decide +kernel
theorem dX6_endRing_11 : decode cX6_endRing 11 = .ok (.arraylength, 1) := by decide +kernel
theorem dX6_endRing_12 : decode cX6_endRing 12 = .ok (.istore_n 3, 1) := by decide +kernel
theorem dX6_endRing_13 : decode cX6_endRing 13 = .ok (.iconst 0, 1) := by decide +kernel
theorem dX6_endRing_14 : decode cX6_endRing 14 = .ok (.istore 4, 2) := by decide +kernel
theorem dX6_endRing_16 : decode cX6_endRing 16 = .ok (.iload 4, 2) := by decide +kernel
theorem dX6_endRing_18 : decode cX6_endRing 18 = .ok (.iload_n 3, 1) := by decide +kernel
theorem dX6_endRing_19 : decode cX6_endRing 19 = .ok (.if_icmp .ge 60, 3) := by decide +kernel
theorem dX6_endRing_22 : decode cX6_endRing 22 = .ok (.aload_n 2, 1) := by decide +kernel
theorem dX6_endRing_23 : decode cX6_endRing 23 = .ok (.iload 4, 2) := by decide +kernel
theorem dX6_endRing_25 : decode cX6_endRing 25 = .ok (.aaload, 1) := by decide +kernel
theorem dX6_endRing_26 : decode cX6_endRing 26 = .ok (.astore 5, 2) := by decide +kernel
theorem dX6_endRing_28 : decode cX6_endRing 28 = .ok (.aload 5, 2) := by decide +kernel
theorem dX6_endRing_30 : decode cX6_endRing 30 = .ok (.getfield 244, 3) := by decide +kernel
theorem dX6_endRing_33 : decode cX6_endRing 33 = .ok (.iload_n 1, 1) := by decide +kernel
theorem dX6_endRing_34 : decode cX6_endRing 34 = .ok (.invokestatic 237, 3) := by decide +kernel
theorem dX6_endRing_37 : decode cX6_endRing 37 = .ok (.ifCond .eq 36, 3) := by decide +kernel
theorem dX6_endRing_40 : decode cX6_endRing 40 = .ok (.aload 5, 2) := by decide +kernel
theorem dX6_endRing_42 : decode cX6_endRing 42 = .ok (.invokevirtual 116, 3) := by decide +kernel
theorem dX6_endRing_45 : decode cX6_endRing 45 = .ok (.pop, 1) := by decide +kernel
theorem dX6_endRing_46 : decode cX6_endRing 46 = .ok (.aload 5, 2) := by decide +kernel
theorem dX6_endRing_48 : decode cX6_endRing 48 = .ok (.getfield 197, 3) := by decide +kernel
theorem dX6_endRing_51 : decode cX6_endRing 51 = .ok (.iconst 2, 1) := by decide +kernel
theorem dX6_endRing_52 : decode cX6_endRing 52 = .ok (.iload_n 1, 1) := by decide +kernel
theorem dX6_endRing_53 : decode cX6_endRing 53 = .ok (.iconst 0, 1) := by decide +kernel
theorem dX6_endRing_54 : decode cX6_endRing 54 = .ok (.iconst 0, 1) := by decide +kernel
theorem dX6_endRing_55 : decode cX6_endRing 55 = .ok (.lconst 0, 1) := by decide +kernel
theorem dX6_endRing_56 : decode cX6_endRing 56 = .ok (.aload 5, 2) := by decide +kernel
theorem dX6_endRing_58 : decode cX6_endRing 58 = .ok (.getfield 80, 3) := by decide +kernel
theorem dX6_endRing_61 : decode cX6_endRing 61 = .ok (.getfield 170, 3) := by decide +kernel
theorem dX6_endRing_64 : decode cX6_endRing 64 = .ok (.invokevirtual 293, 3) := by decide +kernel
theorem dX6_endRing_67 : decode cX6_endRing 67 = .ok (.aload 5, 2) := by decide +kernel
theorem dX6_endRing_69 : decode cX6_endRing 69 = .ok (.iload_n 1, 1) := by decide +kernel
theorem dX6_endRing_70 : decode cX6_endRing 70 = .ok (.invokevirtual 297, 3) := by decide +kernel
theorem dX6_endRing_73 : decode cX6_endRing 73 = .ok (.iinc 4 1, 3) := by decide +kernel
theorem dX6_endRing_76 : decode cX6_endRing 76 = .ok (.goto (-60), 3) := by decide +kernel
theorem dX6_endRing_79 : decode cX6_endRing 79 = .ok (.return_, 1) := by decide +kernel
set_option maxRecDepth 20000 in
theorem ggX6_shareAll_X6_isIn : GoodIn wsX6_shareAll wsX6_isIn := goodIn_r _ [12] (by decide +kernel) (by decide +kernel)
set_option maxRecDepth 20000 in
theorem gX6_shareAll_X6_isIn : GoodIn wsX6_shareAll (va_wsS RX6 237 yX6_isIn wsX6_isIn) := goodIn_app (goodIn_of _ (by decide +kernel)) ggX6_shareAll_X6_isIn
set_option maxRecDepth 20000 in
theorem ggX6_shareAll_X6_giveTo : GoodIn wsX6_shareAll wsX6_giveTo := goodIn_r _ [16, 1, 2, 9, 10, 11, 12, 17, 18, 19, 20, 21, 22, 23, 24, 25, 26, 27, 28, 29, 30, 31, 32, 33, 34, 35, 36, 37, 38, 39, 40, 41, 42, 43, 44, 45, 46, 47, 48, 49, 50, 51, 52, 53, 54, 55, 56, 57, 58, 59, 60, 61, 62, 63, 64] (by decide +kernel) (by decide +kernel)
set_option maxRecDepth 20000 in
theorem gX6_shareAll_X6_giveTo : GoodIn wsX6_shareAll (wsV RX6 256 RX6 yX6_giveTo wsX6_giveTo) := goodIn_app (goodIn_of _ (by decide +kernel)) ggX6_shareAll_X6_giveTo
theorem dX6_shareAll_0 : decode cX6_shareAll 0 = .ok (.iconst 0, 1) := by decide +kernel
theorem dX6_shareAll_1 : decode cX6_shareAll 1 = .ok (.istore_n 2, 1) := by decide +kernel
theorem dX6_shareAll_2 : decode cX6_shareAll 2 = .ok (.aload_n 0, 1) := by decide +kernel
theorem dX6_shareAll_3 : decode cX6_shareAll 3 = .ok (.getfield 31, 3) := by decide +kernel
theorem dX6_shareAll_6 : decode cX6_shareAll 6 = .ok (.astore_n 3, 1) := by decide +kernel
theorem dX6_shareAll_7 : decode cX6_shareAll 7 = .ok (.aload_n 3, 1) := by decide +kernel
theorem dX6_shareAll_8 : decode cX6_shareAll 8 = .ok (.arraylength, 1) := by decide +kernel
theorem dX6_shareAll_9 : decode cX6_shareAll 9 = .ok (.istore 4, 2) := by decide +kernel
theorem dX6_shareAll_11 : decode cX6_shareAll 11 = .ok (.iconst 0, 1) := by decide +kernel
theorem dX6_shareAll_12 : decode cX6_shareAll 12 = .ok (.istore 5, 2) := by decide +kernel
theorem dX6_shareAll_14 : decode cX6_shareAll 14 = .ok (.iload 5, 2) := by decide +kernel
theorem dX6_shareAll_16 : decode cX6_shareAll 16 = .ok (.iload 4, 2) := by decide +kernel
theorem dX6_shareAll_18 : decode cX6_shareAll 18 = .ok (.if_icmp .ge 79, 3) := by decide +kernel
theorem dX6_shareAll_21 : decode cX6_shareAll 21 = .ok (.aload_n 3, 1) := by decide +kernel
theorem dX6_shareAll_22 : decode cX6_shareAll 22 = .ok (.iload 5, 2) := by decide +kernel
theorem dX6_shareAll_24 : decode cX6_shareAll 24 = .ok (.aaload, 1) := by decide +kernel
theorem dX6_shareAll_25 : decode cX6_shareAll 25 = .ok (.astore 6, 2) := by decide +kernel
theorem dX6_shareAll_27 : decode cX6_shareAll 27 = .ok (.aload 6, 2) := by decide +kernel
theorem dX6_shareAll_29 : decode cX6_shareAll 29 = .ok (.getfield 244, 3) := by decide +kernel
theorem dX6_shareAll_32 : decode cX6_shareAll 32 = .ok (.iload_n 1, 1) := by decide +kernel
theorem dX6_shareAll_33 : decode cX6_shareAll 33 = .ok (.invokestatic 237, 3) := by decide +kernel
theorem dX6_shareAll_36 : decode cX6_shareAll 36 = .ok (.ifCond .eq 55, 3) := by decide +kernel
theorem dX6_shareAll_39 : decode cX6_shareAll 39 = .ok (.iload_n 2, 1) := by decide +kernel
theorem dX6_shareAll_40 : decode cX6_shareAll 40 = .ok (.aload 6, 2) := by decide +kernel
theorem dX6_shareAll_42 : decode cX6_shareAll 42 = .ok (.getfield 106, 3) := by decide +kernel
theorem dX6_shareAll_45 : decode cX6_shareAll 45 = .ok (.invokestatic 15, 3) := by decide +kernel
theorem dX6_shareAll_48 : decode cX6_shareAll 48 = .ok (.istore_n 2, 1) := by decide +kernel
theorem dX6_shareAll_49 : decode cX6_shareAll 49 = .ok (.iconst 1, 1) := by decide +kernel
theorem dX6_shareAll_50 : decode cX6_shareAll 50 = .ok (.istore 7, 2) := by decide +kernel
theorem dX6_shareAll_52 : decode cX6_shareAll 52 = .ok (.iload 7, 2) := by decide +kernel
theorem dX6_shareAll_54 : decode cX6_shareAll 54 = .ok (.bipush 100, 2) := by decide +kernel
theorem dX6_shareAll_56 : decode cX6_shareAll 56 = .ok (.if_icmp .gt 35, 3) := by decide +kernel
theorem dX6_shareAll_59 : decode cX6_shareAll 59 = .ok (.aload 6, 2) := by decide +kernel
theorem dX6_shareAll_61 : decode cX6_shareAll 61 = .ok (.getfield 252, 3) := by decide +kernel
theorem dX6_shareAll_64 : decode cX6_shareAll 64 = .ok (.iload 7, 2) := by decide +kernel
theorem dX6_shareAll_66 : decode cX6_shareAll 66 = .ok (.aaload, 1) := by decide +kernel
theorem dX6_shareAll_67 : decode cX6_shareAll 67 = .ok (.ifnull 18, 3) := by decide +kernel
theorem dX6_shareAll_70 : decode cX6_shareAll 70 = .ok (.aload_n 0, 1) := by decide +kernel
theorem dX6_shareAll_71 : decode cX6_shareAll 71 = .ok (.iload_n 1, 1) := by decide +kernel
theorem dX6_shareAll_72 : decode cX6_shareAll 72 = .ok (.iload 7, 2) := by decide +kernel
theorem dX6_shareAll_74 : decode cX6_shareAll 74 = .ok (.aload 6, 2) := by decide +kernel
theorem dX6_shareAll_76 : decode cX6_shareAll 76 = .ok (.getfield 252, 3) := by decide +kernel
theorem dX6_shareAll_79 : decode cX6_shareAll 79 = .ok (.iload 7, 2) := by decide +kernel
theorem dX6_shareAll_81 : decode cX6_shareAll 81 = .ok (.aaload, 1) := by decide +kernel
theorem dX6_shareAll_82 : decode cX6_shareAll 82 = .ok (.invokevirtual 256, 3) := by decide +kernel
theorem dX6_shareAll_85 : decode cX6_shareAll 85 = .ok (.iinc 7 1, 3) := by decide +kernel
theorem dX6_shareAll_88 : decode cX6_shareAll 88 = .ok (.goto (-36), 3) := by decide +kernel
theorem dX6_shareAll_91 : decode cX6_shareAll 91 = .ok (.iinc 5 1, 3) := by decide +kernel
theorem dX6_shareAll_94 : decode cX6_shareAll 94 = .ok (.goto (-80), 3) := by decide +kernel
theorem dX6_shareAll_97 : decode cX6_shareAll 97 = .ok (.aload_n 0, 1) := by decide +kernel
theorem dX6_shareAll_98 : decode cX6_shareAll 98 = .ok (.getfield 31, 3) := by decide +kernel
theorem dX6_shareAll_101 : decode cX6_shareAll 101 = .ok (.astore_n 3, 1) := by decide +kernel
theorem dX6_shareAll_102 : decode cX6_shareAll 102 = .ok (.aload_n 3, 1) := by decide +kernel
theorem dX6_shareAll_103 : decode cX6_shareAll 103 = .ok (.arraylength, 1) := by decide +kernel
theorem dX6_shareAll_104 : decode cX6_shareAll 104 = .ok (.istore 4, 2) := by decide +kernel
theorem dX6_shareAll_106 : decode cX6_shareAll 106 = .ok (.iconst 0, 1) := by decide +kernel
theorem dX6_shareAll_107 : decode cX6_shareAll 107 = .ok (.istore 5, 2) := by decide +kernel
theorem dX6_shareAll_109 : decode cX6_shareAll 109 = .ok (.iload 5, 2) := by decide +kernel
theorem dX6_shareAll_111 : decode cX6_shareAll 111 = .ok (.iload 4, 2) := by decide +kernel
theorem dX6_shareAll_113 : decode cX6_shareAll 113 = .ok (.if_icmp .ge 33, 3) := by decide +kernel
theorem dX6_shareAll_116 : decode cX6_shareAll 116 = .ok (.aload_n 3, 1) := by decide +kernel
theorem dX6_shareAll_117 : decode cX6_shareAll 117 = .ok (.iload 5, 2) := by decide +kernel
theorem dX6_shareAll_119 : decode cX6_shareAll 119 = .ok (.aaload, 1) := by decide +kernel
theorem dX6_shareAll_120 : decode cX6_shareAll 120 = .ok (.astore 6, 2) := by decide +kernel
theorem dX6_shareAll_122 : decode cX6_shareAll 122 = .ok (.aload 6, 2) := by decide +kernel
theorem dX6_shareAll_124 : decode cX6_shareAll 124 = .ok (.getfield 244, 3) := by decide +kernel
theorem dX6_shareAll_127 : decode cX6_shareAll 127 = .ok (.iload_n 1, 1) := by decide +kernel
theorem dX6_shareAll_128 : decode cX6_shareAll 128 = .ok (.invokestatic 237, 3) := by decide +kernel
theorem dX6_shareAll_131 : decode cX6_shareAll 131 = .ok (.ifCond .eq 9, 3) := by decide +kernel
theorem dX6_shareAll_134 : decode cX6_shareAll 134 = .ok (.aload 6, 2) := by decide +kernel
theorem dX6_shareAll_136 : decode cX6_shareAll 136 = .ok (.iload_n 2, 1) := by decide +kernel
theorem dX6_shareAll_137 : decode cX6_shareAll 137 = .ok (.putfield 106, 3) := by decide +kernel
theorem dX6_shareAll_140 : decode cX6_shareAll 140 = .ok (.iinc 5 1, 3) := by decide +kernel
theorem dX6_shareAll_143 : decode cX6_shareAll 143 = .ok (.goto (-34), 3) := by decide +kernel
theorem dX6_shareAll_146 : decode cX6_shareAll 146 = .ok (.return_, 1) := by decide +kernel
set_option maxRecDepth 20000 in
theorem ggX6_bringTablesUpToDate_X6_keptByOne : GoodIn wsX6_bringTablesUpToDate wsX6_keptByOne := goodIn_r _ [10, 4, 5, 3, 1, 11, 12, 13, 9, 14, 49, 50, 51, 52, 31, 32, 33, 34, 35, 36, 37, 38, 39, 40, 41, 42, 43, 44, 45, 46, 47, 48] (by decide +kernel) (by decide +kernel)
set_option maxRecDepth 20000 in
theorem gX6_bringTablesUpToDate_X6_keptByOne : GoodIn wsX6_bringTablesUpToDate (wsV RX6 303 RX6 yX6_keptByOne wsX6_keptByOne) := goodIn_app (goodIn_of _ (by decide +kernel)) ggX6_bringTablesUpToDate_X6_keptByOne
set_option maxRecDepth 20000 in
theorem ggX6_bringTablesUpToDate_X4_apply : GoodIn wsX6_bringTablesUpToDate wsX4_apply := goodIn_r _ [19, 20, 21, 22, 23, 24, 25, 26, 44, 45, 46, 47, 48, 53, 54, 55, 56] (by decide +kernel) (by decide +kernel)
set_option maxRecDepth 20000 in
theorem gX6_bringTablesUpToDate_X4_apply : GoodIn wsX6_bringTablesUpToDate (wsV RX6 307 RX4 yX4_apply wsX4_apply) := goodIn_app (goodIn_of _ (by decide +kernel)) ggX6_bringTablesUpToDate_X4_apply
set_option maxRecDepth 20000 in
theorem ggX6_bringTablesUpToDate_X6_isIn : GoodIn wsX6_bringTablesUpToDate wsX6_isIn := goodIn_r _ [14] (by decide +kernel) (by decide +kernel)
set_option maxRecDepth 20000 in
theorem gX6_bringTablesUpToDate_X6_isIn : GoodIn wsX6_bringTablesUpToDate (va_wsS RX6 237 yX6_isIn wsX6_isIn) := goodIn_app (goodIn_of _ (by decide +kernel)) ggX6_bringTablesUpToDate_X6_isIn
set_option maxRecDepth 20000 in
theorem ggX6_bringTablesUpToDate_X4_copyTable : GoodIn wsX6_bringTablesUpToDate wsX4_copyTable := goodIn_r _ [30, 20, 23, 24, 44, 45, 46, 47, 48] (by decide +kernel) (by decide +kernel)
set_option maxRecDepth 20000 in
theorem gX6_bringTablesUpToDate_X4_copyTable : GoodIn wsX6_bringTablesUpToDate (wsV RX6 310 RX4 yX4_copyTable wsX4_copyTable) := goodIn_app (goodIn_of _ (by decide +kernel)) ggX6_bringTablesUpToDate_X4_copyTable
theorem dX6_bringTablesUpToDate_0 : decode cX6_bringTablesUpToDate 0 = .ok (.aload_n 1, 1) := by decide +kernel
theorem dX6_bringTablesUpToDate_1 : decode cX6_bringTablesUpToDate 1 = .ok (.getfield 182, 3) := by decide +kernel
theorem dX6_bringTablesUpToDate_4 : decode cX6_bringTablesUpToDate 4 = .ok (.getfield 300, 3) := by decide +kernel
theorem dX6_bringTablesUpToDate_7 : decode cX6_bringTablesUpToDate 7 = .ok (.iconst 1, 1) := by decide +kernel
theorem dX6_bringTablesUpToDate_8 : decode cX6_bringTablesUpToDate 8 = .ok (.iadd, 1) := by decide +kernel
theorem dX6_bringTablesUpToDate_9 : decode cX6_bringTablesUpToDate 9 = .ok (.istore_n 3, 1) := by decide +kernel
theorem dX6_bringTablesUpToDate_10 : decode cX6_bringTablesUpToDate 10 = .ok (.iload_n 3, 1) := by decide +kernel
theorem dX6_bringTablesUpToDate_11 : decode cX6_bringTablesUpToDate 11 = .ok (.bipush 100, 2) := by decide +kernel
theorem dX6_bringTablesUpToDate_13 : decode cX6_bringTablesUpToDate 13 = .ok (.if_icmp .gt 36, 3) := by decide +kernel
theorem dX6_bringTablesUpToDate_16 : decode cX6_bringTablesUpToDate 16 = .ok (.aload_n 0, 1) := by decide +kernel
theorem dX6_bringTablesUpToDate_17 : decode cX6_bringTablesUpToDate 17 = .ok (.iload_n 2, 1) := by decide +kernel
theorem dX6_bringTablesUpToDate_18 : decode cX6_bringTablesUpToDate 18 = .ok (.aload_n 1, 1) := by decide +kernel
theorem dX6_bringTablesUpToDate_19 : decode cX6_bringTablesUpToDate 19 = .ok (.getfield 191, 3) := by decide +kernel
theorem dX6_bringTablesUpToDate_22 : decode cX6_bringTablesUpToDate 22 = .ok (.iload_n 3, 1) := by decide +kernel
theorem dX6_bringTablesUpToDate_23 : decode cX6_bringTablesUpToDate 23 = .ok (.invokevirtual 303, 3) := by decide +kernel
theorem dX6_bringTablesUpToDate_26 : decode cX6_bringTablesUpToDate 26 = .ok (.astore 4, 2) := by decide +kernel
theorem dX6_bringTablesUpToDate_28 : decode cX6_bringTablesUpToDate 28 = .ok (.aload 4, 2) := by decide +kernel
theorem dX6_bringTablesUpToDate_30 : decode cX6_bringTablesUpToDate 30 = .ok (.ifnull 13, 3) := by decide +kernel
theorem dX6_bringTablesUpToDate_33 : decode cX6_bringTablesUpToDate 33 = .ok (.aload_n 1, 1) := by decide +kernel
theorem dX6_bringTablesUpToDate_34 : decode cX6_bringTablesUpToDate 34 = .ok (.getfield 182, 3) := by decide +kernel
theorem dX6_bringTablesUpToDate_37 : decode cX6_bringTablesUpToDate 37 = .ok (.iload_n 3, 1) := by decide +kernel
theorem dX6_bringTablesUpToDate_38 : decode cX6_bringTablesUpToDate 38 = .ok (.aload 4, 2) := by decide +kernel
theorem dX6_bringTablesUpToDate_40 : decode cX6_bringTablesUpToDate 40 = .ok (.invokevirtual 307, 3) := by decide +kernel
theorem dX6_bringTablesUpToDate_43 : decode cX6_bringTablesUpToDate 43 = .ok (.iinc 3 1, 3) := by decide +kernel
theorem dX6_bringTablesUpToDate_46 : decode cX6_bringTablesUpToDate 46 = .ok (.goto (-36), 3) := by decide +kernel
theorem dX6_bringTablesUpToDate_49 : decode cX6_bringTablesUpToDate 49 = .ok (.aload_n 0, 1) := by decide +kernel
theorem dX6_bringTablesUpToDate_50 : decode cX6_bringTablesUpToDate 50 = .ok (.getfield 31, 3) := by decide +kernel
theorem dX6_bringTablesUpToDate_53 : decode cX6_bringTablesUpToDate 53 = .ok (.astore_n 3, 1) := by decide +kernel
theorem dX6_bringTablesUpToDate_54 : decode cX6_bringTablesUpToDate 54 = .ok (.aload_n 3, 1) := by decide +kernel
theorem dX6_bringTablesUpToDate_55 : decode cX6_bringTablesUpToDate 55 = .ok (.arraylength, 1) := by decide +kernel
theorem dX6_bringTablesUpToDate_56 : decode cX6_bringTablesUpToDate 56 = .ok (.istore 4, 2) := by decide +kernel
theorem dX6_bringTablesUpToDate_58 : decode cX6_bringTablesUpToDate 58 = .ok (.iconst 0, 1) := by decide +kernel
theorem dX6_bringTablesUpToDate_59 : decode cX6_bringTablesUpToDate 59 = .ok (.istore 5, 2) := by decide +kernel
theorem dX6_bringTablesUpToDate_61 : decode cX6_bringTablesUpToDate 61 = .ok (.iload 5, 2) := by decide +kernel
theorem dX6_bringTablesUpToDate_63 : decode cX6_bringTablesUpToDate 63 = .ok (.iload 4, 2) := by decide +kernel
theorem dX6_bringTablesUpToDate_65 : decode cX6_bringTablesUpToDate 65 = .ok (.if_icmp .ge 39, 3) := by decide +kernel
theorem dX6_bringTablesUpToDate_68 : decode cX6_bringTablesUpToDate 68 = .ok (.aload_n 3, 1) := by decide +kernel
theorem dX6_bringTablesUpToDate_69 : decode cX6_bringTablesUpToDate 69 = .ok (.iload 5, 2) := by decide +kernel
theorem dX6_bringTablesUpToDate_71 : decode cX6_bringTablesUpToDate 71 = .ok (.aaload, 1) := by decide +kernel
theorem dX6_bringTablesUpToDate_72 : decode cX6_bringTablesUpToDate 72 = .ok (.astore 6, 2) := by decide +kernel
theorem dX6_bringTablesUpToDate_74 : decode cX6_bringTablesUpToDate 74 = .ok (.aload 6, 2) := by decide +kernel
theorem dX6_bringTablesUpToDate_76 : decode cX6_bringTablesUpToDate 76 = .ok (.getfield 244, 3) := by decide +kernel
theorem dX6_bringTablesUpToDate_79 : decode cX6_bringTablesUpToDate 79 = .ok (.iload_n 2, 1) := by decide +kernel
