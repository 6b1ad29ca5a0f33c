theorem dX5_spare_43 : decode cX5_spare 43 = .ok (.aload_n 0, 1) := by decide +kernel
theorem dX5_spare_44 : decode cX5_spare 44 = .ok (.getfield 10, 3) := by decide +kernel
theorem dX5_spare_47 : decode cX5_spare 47 = .ok (.invokevirtual 114, 3) := by decide +kernel
theorem dX5_spare_50 : decode cX5_spare 50 = .ok (.invokevirtual 166, 3) := by decide +kernel
theorem dX5_spare_53 : decode cX5_spare 53 = .ok (.fstore 5, 2) := by decide +kernel
theorem dX5_spare_55 : decode cX5_spare 55 = .ok (.fload 5, 2) := by decide +kernel
theorem dX5_spare_57 : decode cX5_spare 57 = .ok (.fload_n 3, 1) := by decide +kernel
theorem dX5_spare_58 : decode cX5_spare 58 = .ok (.invokestatic 130, 3) := by decide +kernel
theorem dX5_spare_61 : decode cX5_spare 61 = .ok (.ifCond .eq 9, 3) := by decide +kernel
theorem dX5_spare_64 : decode cX5_spare 64 = .ok (.fload 5, 2) := by decide +kernel
theorem dX5_spare_66 : decode cX5_spare 66 = .ok (.fstore_n 3, 1) := by decide +kernel
theorem dX5_spare_67 : decode cX5_spare 67 = .ok (.iload 4, 2) := by decide +kernel
theorem dX5_spare_69 : decode cX5_spare 69 = .ok (.istore_n 2, 1) := by decide +kernel
theorem dX5_spare_70 : decode cX5_spare 70 = .ok (.iinc 4 1, 3) := by decide +kernel
theorem dX5_spare_73 : decode cX5_spare 73 = .ok (.goto (-51), 3) := by decide +kernel
theorem dX5_spare_76 : decode cX5_spare 76 = .ok (.iload_n 2, 1) := by decide +kernel
theorem dX5_spare_77 : decode cX5_spare 77 = .ok (.ireturn, 1) := by decide +kernel
set_option maxRecDepth 20000 in
theorem ggX5_type_X5_isWithin : GoodIn wsX5_type wsX5_isWithin := goodIn_r _ [5] (by decide +kernel) (by decide +kernel)
set_option maxRecDepth 20000 in
theorem gX5_type_X5_isWithin : GoodIn wsX5_type (va_wsS RX5 81 yX5_isWithin wsX5_isWithin) := goodIn_app (goodIn_of _ (by decide +kernel)) ggX5_type_X5_isWithin
set_option maxRecDepth 20000 in
theorem ggX5_type_X5_refuseBad : GoodIn wsX5_type wsX5_refuseBad := goodIn_r _ [9, 10, 27, 28, 29, 30, 31, 32, 33, 34] (by decide +kernel) (by decide +kernel)
set_option maxRecDepth 20000 in
theorem gX5_type_X5_refuseBad : GoodIn wsX5_type (wsV RX5 48 RX5 yX5_refuseBad wsX5_refuseBad) := goodIn_app (goodIn_of _ (by decide +kernel)) ggX5_type_X5_refuseBad
set_option maxRecDepth 20000 in
theorem ggX5_type_X4_length : GoodIn wsX5_type wsX4_length := goodIn_r _ [15, 16, 35, 36, 37, 38, 39] (by decide +kernel) (by decide +kernel)
set_option maxRecDepth 20000 in
theorem gX5_type_X4_length : GoodIn wsX5_type (wsV RX5 169 RX4 yX4_length wsX4_length) := goodIn_app (goodIn_of _ (by decide +kernel)) ggX5_type_X4_length
set_option maxRecDepth 20000 in
theorem ggX5_type_X5_refuseFull : GoodIn wsX5_type wsX5_refuseFull := goodIn_r _ [20, 21, 27, 28, 29, 30, 31, 32, 33, 34] (by decide +kernel) (by decide +kernel)
set_option maxRecDepth 20000 in
theorem gX5_type_X5_refuseFull : GoodIn wsX5_type (wsV RX5 56 RX5 yX5_refuseFull wsX5_refuseFull) := goodIn_app (goodIn_of _ (by decide +kernel)) ggX5_type_X5_refuseFull
set_option maxRecDepth 20000 in
theorem ggX5_type_X4_append : GoodIn wsX5_type wsX4_append := goodIn_r _ [25, 16, 26, 35, 36, 37, 38, 39] (by decide +kernel) (by decide +kernel)
set_option maxRecDepth 20000 in
theorem gX5_type_X4_append : GoodIn wsX5_type (wsV RX5 172 RX4 yX4_append wsX4_append) := goodIn_app (goodIn_of _ (by decide +kernel)) ggX5_type_X4_append
theorem dX5_type_0 : decode cX5_type 0 = .ok (.iload_n 1, 1) := by decide +kernel
theorem dX5_type_1 : decode cX5_type 1 = .ok (.iconst 0, 1) := by decide +kernel
theorem dX5_type_2 : decode cX5_type 2 = .ok (.bipush 127, 2) := by decide +kernel
theorem dX5_type_4 : decode cX5_type 4 = .ok (.invokestatic 81, 3) := by decide +kernel
theorem dX5_type_7 : decode cX5_type 7 = .ok (.ifCond .ne 10, 3) := by decide +kernel
theorem dX5_type_10 : decode cX5_type 10 = .ok (.aload_n 0, 1) := by decide +kernel
theorem dX5_type_11 : decode cX5_type 11 = .ok (.bipush (-2), 2) := by decide +kernel
theorem dX5_type_13 : decode cX5_type 13 = .ok (.invokevirtual 48, 3) := by decide +kernel
theorem dX5_type_16 : decode cX5_type 16 = .ok (.ireturn, 1) := by decide +kernel
theorem dX5_type_17 : decode cX5_type 17 = .ok (.aload_n 0, 1) := by decide +kernel
theorem dX5_type_18 : decode cX5_type 18 = .ok (.getfield 40, 3) := by decide +kernel
theorem dX5_type_21 : decode cX5_type 21 = .ok (.invokevirtual 169, 3) := by decide +kernel
theorem dX5_type_24 : decode cX5_type 24 = .ok (.bipush 120, 2) := by decide +kernel
theorem dX5_type_26 : decode cX5_type 26 = .ok (.if_icmp .lt 8, 3) := by decide +kernel
theorem dX5_type_29 : decode cX5_type 29 = .ok (.aload_n 0, 1) := by decide +kernel
theorem dX5_type_30 : decode cX5_type 30 = .ok (.invokevirtual 56, 3) := by decide +kernel
theorem dX5_type_33 : decode cX5_type 33 = .ok (.ireturn, 1) := by decide +kernel
theorem dX5_type_34 : decode cX5_type 34 = .ok (.aload_n 0, 1) := by decide +kernel
theorem dX5_type_35 : decode cX5_type 35 = .ok (.getfield 40, 3) := by decide +kernel
theorem dX5_type_38 : decode cX5_type 38 = .ok (.iload_n 1, 1) := by decide +kernel
theorem dX5_type_39 : decode cX5_type 39 = .ok (.invokevirtual 172, 3) := by decide +kernel
theorem dX5_type_42 : decode cX5_type 42 = .ok (.ireturn, 1) := by decide +kernel
set_option maxRecDepth 20000 in
theorem ggX5_clear_X4_wipe : GoodIn wsX5_clear wsX4_wipe := goodIn_r _ [6, 7, 16, 17, 18, 19, 20] (by decide +kernel) (by decide +kernel)
set_option maxRecDepth 20000 in
theorem gX5_clear_X4_wipe : GoodIn wsX5_clear (wsV RX5 174 RX4 yX4_wipe wsX4_wipe) := goodIn_app (goodIn_of _ (by decide +kernel)) ggX5_clear_X4_wipe
theorem dX5_clear_0 : decode cX5_clear 0 = .ok (.aload_n 0, 1) := by decide +kernel
theorem dX5_clear_1 : decode cX5_clear 1 = .ok (.getfield 40, 3) := by decide +kernel
theorem dX5_clear_4 : decode cX5_clear 4 = .ok (.invokevirtual 174, 3) := by decide +kernel
theorem dX5_clear_7 : decode cX5_clear 7 = .ok (.ireturn, 1) := by decide +kernel
set_option maxRecDepth 20000 in
theorem ggX5_reads_X0_days : GoodIn wsX5_reads wsX0_days := goodIn_r _ [7, 8, 117, 118, 119, 120, 121] (by decide +kernel) (by decide +kernel)
set_option maxRecDepth 20000 in
theorem gX5_reads_X0_days : GoodIn wsX5_reads (wsV RX5 52 RX0 yX0_days wsX0_days) := goodIn_app (goodIn_of _ (by decide +kernel)) ggX5_reads_X0_days
set_option maxRecDepth 20000 in
theorem ggX5_reads_X4_parse : GoodIn wsX5_reads wsX4_parse := goodIn_r _ [13, 14, 15, 16, 17, 18, 19, 12, 20, 21, 22, 23, 24, 25, 26, 27, 28, 29, 30, 31, 32, 33, 34, 35, 36, 37, 38, 39, 40, 41, 42, 43, 44, 45, 46, 47, 48, 49, 122, 123, 124, 125, 126] (by decide +kernel) (by decide +kernel)
set_option maxRecDepth 20000 in
theorem gX5_reads_X4_parse : GoodIn wsX5_reads (wsV RX5 177 RX4 yX4_parse wsX4_parse) := goodIn_app (goodIn_of _ (by decide +kernel)) ggX5_reads_X4_parse
set_option maxRecDepth 20000 in
theorem ggX5_reads_X5_keepState : GoodIn wsX5_reads wsX5_keepState := goodIn_r _ [53, 54, 2, 55, 56, 57, 58, 59, 60, 61, 62, 63, 64, 65, 66, 67, 68, 69, 70, 6, 71, 72, 73, 74, 75, 76, 77, 8, 78, 79, 80, 81, 82, 83, 84, 85, 109, 110, 111, 112, 113, 114, 115, 116, 127, 128, 129, 117, 118, 119, 120, 121, 130, 131, 132, 133, 134, 135, 136, 137, 138] (by decide +kernel) (by decide +kernel)
set_option maxRecDepth 20000 in
theorem gX5_reads_X5_keepState : GoodIn wsX5_reads (wsV RX5 59 RX5 yX5_keepState wsX5_keepState) := goodIn_app (goodIn_of _ (by decide +kernel)) ggX5_reads_X5_keepState
set_option maxRecDepth 20000 in
theorem ggX5_reads_X4_daysTold : GoodIn wsX5_reads wsX4_daysTold := goodIn_r _ [89, 15, 122, 123, 124, 125, 126] (by decide +kernel) (by decide +kernel)
set_option maxRecDepth 20000 in
theorem gX5_reads_X4_daysTold : GoodIn wsX5_reads (wsV RX5 180 RX4 yX4_daysTold wsX4_daysTold) := goodIn_app (goodIn_of _ (by decide +kernel)) ggX5_reads_X4_daysTold
set_option maxRecDepth 20000 in
theorem ggX5_reads_X4_note : GoodIn wsX5_reads wsX4_note := goodIn_r _ [93, 15, 38, 94, 44, 95, 96, 43, 45, 122, 123, 124, 125, 126] (by decide +kernel) (by decide +kernel)
set_option maxRecDepth 20000 in
theorem gX5_reads_X4_note : GoodIn wsX5_reads (wsV RX5 183 RX4 yX4_note wsX4_note) := goodIn_app (goodIn_of _ (by decide +kernel)) ggX5_reads_X4_note
set_option maxRecDepth 20000 in
theorem ggX5_reads_X0_append : GoodIn wsX5_reads wsX0_append := goodIn_r _ [100, 8, 101, 102, 103, 6, 104, 72, 105, 106, 107, 108, 94, 44, 95, 96, 43, 45, 117, 118, 119, 120, 121] (by decide +kernel) (by decide +kernel)
set_option maxRecDepth 20000 in
theorem gX5_reads_X0_append : GoodIn wsX5_reads (wsV RX5 62 RX0 yX0_append wsX0_append) := goodIn_app (goodIn_of _ (by decide +kernel)) ggX5_reads_X0_append
theorem dX5_reads_0 : decode cX5_reads 0 = .ok (.aload_n 0, 1) := by decide +kernel
theorem dX5_reads_1 : decode cX5_reads 1 = .ok (.getfield 40, 3) := by decide +kernel
theorem dX5_reads_4 : decode cX5_reads 4 = .ok (.bipush 50, 2) := by decide +kernel
theorem dX5_reads_6 : decode cX5_reads 6 = .ok (.aload_n 0, 1) := by decide +kernel
theorem dX5_reads_7 : decode cX5_reads 7 = .ok (.getfield 10, 3) := by decide +kernel
theorem dX5_reads_10 : decode cX5_reads 10 = .ok (.invokevirtual 52, 3) := by decide +kernel
theorem dX5_reads_13 : decode cX5_reads 13 = .ok (.isub, 1) := by decide +kernel
theorem dX5_reads_14 : decode cX5_reads 14 = .ok (.invokevirtual 177, 3) := by decide +kernel
theorem dX5_reads_17 : decode cX5_reads 17 = .ok (.istore_n 1, 1) := by decide +kernel
theorem dX5_reads_18 : decode cX5_reads 18 = .ok (.iload_n 1, 1) := by decide +kernel
theorem dX5_reads_19 : decode cX5_reads 19 = .ok (.iconst (-1), 1) := by decide +kernel
theorem dX5_reads_20 : decode cX5_reads 20 = .ok (.if_icmp .eq 8, 3) := by decide +kernel
theorem dX5_reads_23 : decode cX5_reads 23 = .ok (.bipush (-10), 2) := by decide +kernel
theorem dX5_reads_25 : decode cX5_reads 25 = .ok (.iload_n 1, 1) := by decide +kernel
theorem dX5_reads_26 : decode cX5_reads 26 = .ok (.isub, 1) := by decide +kernel
theorem dX5_reads_27 : decode cX5_reads 27 = .ok (.ireturn, 1) := by decide +kernel
theorem dX5_reads_28 : decode cX5_reads 28 = .ok (.aload_n 0, 1) := by decide +kernel
theorem dX5_reads_29 : decode cX5_reads 29 = .ok (.invokevirtual 59, 3) := by decide +kernel
theorem dX5_reads_32 : decode cX5_reads 32 = .ok (.iconst 0, 1) := by decide +kernel
theorem dX5_reads_33 : decode cX5_reads 33 = .ok (.istore_n 2, 1) := by decide +kernel
theorem dX5_reads_34 : decode cX5_reads 34 = .ok (.iload_n 2, 1) := by decide +kernel
theorem dX5_reads_35 : decode cX5_reads 35 = .ok (.aload_n 0, 1) := by decide +kernel
theorem dX5_reads_36 : decode cX5_reads 36 = .ok (.getfield 40, 3) := by decide +kernel
theorem dX5_reads_39 : decode cX5_reads 39 = .ok (.invokevirtual 180, 3) := by decide +kernel
theorem dX5_reads_42 : decode cX5_reads 42 = .ok (.if_icmp .ge 53, 3) := by decide +kernel
theorem dX5_reads_45 : decode cX5_reads 45 = .ok (.aload_n 0, 1) := by decide +kernel
theorem dX5_reads_46 : decode cX5_reads 46 = .ok (.getfield 10, 3) := by decide +kernel
theorem dX5_reads_49 : decode cX5_reads 49 = .ok (.aload_n 0, 1) := by decide +kernel
theorem dX5_reads_50 : decode cX5_reads 50 = .ok (.getfield 40, 3) := by decide +kernel
theorem dX5_reads_53 : decode cX5_reads 53 = .ok (.iload_n 2, 1) := by decide +kernel
theorem dX5_reads_54 : decode cX5_reads 54 = .ok (.iconst 0, 1) := by decide +kernel
theorem dX5_reads_55 : decode cX5_reads 55 = .ok (.invokevirtual 183, 3) := by decide +kernel
theorem dX5_reads_58 : decode cX5_reads 58 = .ok (.aload_n 0, 1) := by decide +kernel
theorem dX5_reads_59 : decode cX5_reads 59 = .ok (.getfield 40, 3) := by decide +kernel
theorem dX5_reads_62 : decode cX5_reads 62 = .ok (.iload_n 2, 1) := by decide +kernel
theorem dX5_reads_63 : decode cX5_reads 63 = .ok (.iconst 1, 1) := by decide +kernel
theorem dX5_reads_64 : decode cX5_reads 64 = .ok (.invokevirtual 183, 3) := by decide +kernel
theorem dX5_reads_67 : decode cX5_reads 67 = .ok (.aload_n 0, 1) := by decide +kernel
theorem dX5_reads_68 : decode cX5_reads 68 = .ok (.getfield 40, 3) := by decide +kernel
theorem dX5_reads_71 : decode cX5_reads 71 = .ok (.iload_n 2, 1) := by decide +kernel
theorem dX5_reads_72 : decode cX5_reads 72 = .ok (.iconst 2, 1) := by decide +kernel
theorem dX5_reads_73 : decode cX5_reads 73 = .ok (.invokevirtual 183, 3) := by decide +kernel
theorem dX5_reads_76 : decode cX5_reads 76 = .ok (.aload_n 0, 1) := by decide +kernel
theorem dX5_reads_77 : decode cX5_reads 77 = .ok (.getfield 40, 3) := by decide +kernel
theorem dX5_reads_80 : decode cX5_reads 80 = .ok (.iload_n 2, 1) := by decide +kernel
theorem dX5_reads_81 : decode cX5_reads 81 = .ok (.iconst 3, 1) := by decide +kernel
theorem dX5_reads_82 : decode cX5_reads 82 = .ok (.invokevirtual 183, 3) := by decide +kernel
theorem dX5_reads_85 : decode cX5_reads 85 = .ok (.invokevirtual 62, 3) := by decide +kernel
theorem dX5_reads_88 : decode cX5_reads 88 = .ok (.pop, 1) := by decide +kernel
theorem dX5_reads_89 : decode cX5_reads 89 = .ok (.iinc 2 1, 3) := by decide +kernel
theorem dX5_reads_92 : decode cX5_reads 92 = .ok (.goto (-58), 3) := by decide +kernel
theorem dX5_reads_95 : decode cX5_reads 95 = .ok (.aload_n 0, 1) := by decide +kernel
theorem dX5_reads_96 : decode cX5_reads 96 = .ok (.getfield 40, 3) := by decide +kernel
theorem dX5_reads_99 : decode cX5_reads 99 = .ok (.invokevirtual 180, 3) := by decide +kernel
theorem dX5_reads_102 : decode cX5_reads 102 = .ok (.ireturn, 1) := by decide +kernel
set_option maxRecDepth 20000 in
theorem ggX5_back_X3_count : GoodIn wsX5_back wsX3_count := goodIn_r _ [9, 10, 45, 46, 47] (by decide +kernel) (by decide +kernel)
set_option maxRecDepth 20000 in
theorem gX5_back_X3_count : GoodIn wsX5_back (wsV RX5 186 RX3 yX3_count wsX3_count) := goodIn_app (goodIn_of _ (by decide +kernel)) ggX5_back_X3_count
set_option maxRecDepth 20000 in
theorem ggX5_back_X3_pop : GoodIn wsX5_back wsX3_pop := goodIn_r _ [14, 10, 15, 16, 17, 18, 19, 20, 21, 22, 23, 24, 25, 26, 27, 28, 29, 30, 45, 46, 47, 48, 49, 50, 51, 52] (by decide +kernel) (by decide +kernel)
set_option maxRecDepth 20000 in
theorem gX5_back_X3_pop : GoodIn wsX5_back (wsV RX5 193 RX3 yX3_pop wsX3_pop) := goodIn_app (goodIn_of _ (by decide +kernel)) ggX5_back_X3_pop
set_option maxRecDepth 20000 in
theorem ggX5_back_X2_forget : GoodIn wsX5_back wsX2_forget := goodIn_r _ [35, 36, 53, 54, 55, 56, 57, 58, 59, 60, 61] (by decide +kernel) (by decide +kernel)
set_option maxRecDepth 20000 in
theorem gX5_back_X2_forget : GoodIn wsX5_back (wsV RX5 197 RX2 yX2_forget wsX2_forget) := goodIn_app (goodIn_of _ (by decide +kernel)) ggX5_back_X2_forget
theorem dX5_back_0 : decode cX5_back 0 = .ok (.aload_n 0, 1) := by decide +kernel
theorem dX5_back_1 : decode cX5_back 1 = .ok (.getfield 19, 3) := by decide +kernel
theorem dX5_back_4 : decode cX5_back 4 = .ok (.invokevirtual 186, 3) := by decide +kernel
theorem dX5_back_7 : decode cX5_back 7 = .ok (.ifCond .ne 16, 3) := by decide +kernel
theorem dX5_back_10 : decode cX5_back 10 = .ok (.aload_n 0, 1) := by decide +kernel
theorem dX5_back_11 : decode cX5_back 11 = .ok (.dup, 1) := by decide +kernel
theorem dX5_back_12 : decode cX5_back 12 = .ok (.getfield 189, 3) := by decide +kernel
theorem dX5_back_15 : decode cX5_back 15 = .ok (.iconst 1, 1) := by decide +kernel
theorem dX5_back_16 : decode cX5_back 16 = .ok (.iadd, 1) := by decide +kernel
theorem dX5_back_17 : decode cX5_back 17 = .ok (.putfield 189, 3) := by decide +kernel
theorem dX5_back_20 : decode cX5_back 20 = .ok (.bipush (-3), 2) := by decide +kernel
theorem dX5_back_22 : decode cX5_back 22 = .ok (.ireturn, 1) := by decide +kernel
theorem dX5_back_23 : decode cX5_back 23 = .ok (.aload_n 0, 1) := by decide +kernel
theorem dX5_back_24 : decode cX5_back 24 = .ok (.getfield 19, 3) := by decide +kernel
theorem dX5_back_27 : decode cX5_back 27 = .ok (.aload_n 0, 1) := by decide +kernel
theorem dX5_back_28 : decode cX5_back 28 = .ok (.getfield 10, 3) := by decide +kernel
theorem dX5_back_31 : decode cX5_back 31 = .ok (.invokevirtual 193, 3) := by decide +kernel
theorem dX5_back_34 : decode cX5_back 34 = .ok (.aload_n 0, 1) := by decide +kernel
theorem dX5_back_35 : decode cX5_back 35 = .ok (.getfield 26, 3) := by decide +kernel
theorem dX5_back_38 : decode cX5_back 38 = .ok (.invokevirtual 197, 3) := by decide +kernel
theorem dX5_back_41 : decode cX5_back 41 = .ok (.aload_n 0, 1) := by decide +kernel
theorem dX5_back_42 : decode cX5_back 42 = .ok (.getfield 19, 3) := by decide +kernel
theorem dX5_back_45 : decode cX5_back 45 = .ok (.invokevirtual 186, 3) := by decide +kernel
theorem dX5_back_48 : decode cX5_back 48 = .ok (.ireturn, 1) := by decide +kernel
set_option maxRecDepth 20000 in
theorem ggX5_told_X4_length : GoodIn wsX5_told wsX4_length := goodIn_r _ [11, 12, 48, 49, 50, 51, 52] (by decide +kernel) (by decide +kernel)
set_option maxRecDepth 20000 in
theorem gX5_told_X4_length : GoodIn wsX5_told (wsV RX5 169 RX4 yX4_length wsX4_length) := goodIn_app (goodIn_of _ (by decide +kernel)) ggX5_told_X4_length
set_option maxRecDepth 20000 in
theorem ggX5_told_X0_days : GoodIn wsX5_told wsX0_days := goodIn_r _ [17, 18, 53, 54, 55, 56, 57] (by decide +kernel) (by decide +kernel)
set_option maxRecDepth 20000 in
theorem gX5_told_X0_days : GoodIn wsX5_told (wsV RX5 52 RX0 yX0_days wsX0_days) := goodIn_app (goodIn_of _ (by decide +kernel)) ggX5_told_X0_days
set_option maxRecDepth 20000 in
theorem ggX5_told_X0_gap : GoodIn wsX5_told wsX0_gap := goodIn_r _ [22, 23, 53, 54, 55, 56, 57] (by decide +kernel) (by decide +kernel)
set_option maxRecDepth 20000 in
theorem gX5_told_X0_gap : GoodIn wsX5_told (wsV RX5 206 RX0 yX0_gap wsX0_gap) := goodIn_app (goodIn_of _ (by decide +kernel)) ggX5_told_X0_gap
set_option maxRecDepth 20000 in
theorem ggX5_told_X0_few : GoodIn wsX5_told wsX0_few := goodIn_r _ [27, 28, 53, 54, 55, 56, 57] (by decide +kernel) (by decide +kernel)
set_option maxRecDepth 20000 in
theorem gX5_told_X0_few : GoodIn wsX5_told (wsV RX5 114 RX0 yX0_few wsX0_few) := goodIn_app (goodIn_of _ (by decide +kernel)) ggX5_told_X0_few
set_option maxRecDepth 20000 in
theorem ggX5_told_X3_count : GoodIn wsX5_told wsX3_count := goodIn_r _ [33, 34, 58, 59, 60] (by decide +kernel) (by decide +kernel)
set_option maxRecDepth 20000 in
theorem gX5_told_X3_count : GoodIn wsX5_told (wsV RX5 186 RX3 yX3_count wsX3_count) := goodIn_app (goodIn_of _ (by decide +kernel)) ggX5_told_X3_count
set_option maxRecDepth 20000 in
theorem ggX5_told_X5_refuseBad : GoodIn wsX5_told wsX5_refuseBad := goodIn_r _ [39, 1, 40, 41, 42, 43, 44, 45, 46, 47] (by decide +kernel) (by decide +kernel)
set_option maxRecDepth 20000 in
theorem gX5_told_X5_refuseBad : GoodIn wsX5_told (wsV RX5 48 RX5 yX5_refuseBad wsX5_refuseBad) := goodIn_app (goodIn_of _ (by decide +kernel)) ggX5_told_X5_refuseBad
theorem dX5_told_0 : decode cX5_told 0 = .ok (.iload_n 1, 1) := by decide +kernel
theorem dX5_told_1 : decode cX5_told 1 = .ok (.tableswitch 102 0 7 #[47, 52, 57, 62, 70, 78, 86, 94], 47) := by decide +kernel
theorem dX5_told_48 : decode cX5_told 48 = .ok (.aload_n 0, 1) := by decide +kernel
theorem dX5_told_49 : decode cX5_told 49 = .ok (.getfield 200, 3) := by decide +kernel
theorem dX5_told_52 : decode cX5_told 52 = .ok (.ireturn, 1) := by decide +kernel
theorem dX5_told_53 : decode cX5_told 53 = .ok (.aload_n 0, 1) := by decide +kernel
theorem dX5_told_54 : decode cX5_told 54 = .ok (.getfield 189, 3) := by decide +kernel
theorem dX5_told_57 : decode cX5_told 57 = .ok (.ireturn, 1) := by decide +kernel
theorem dX5_told_58 : decode cX5_told 58 = .ok (.aload_n 0, 1) := by decide +kernel
theorem dX5_told_59 : decode cX5_told 59 = .ok (.getfield 203, 3) := by decide +kernel
theorem dX5_told_62 : decode cX5_told 62 = .ok (.ireturn, 1) := by decide +kernel
theorem dX5_told_63 : decode cX5_told 63 = .ok (.aload_n 0, 1) := by decide +kernel
theorem dX5_told_64 : decode cX5_told 64 = .ok (.getfield 40, 3) := by decide +kernel
theorem dX5_told_67 : decode cX5_told 67 = .ok (.invokevirtual 169, 3) := by decide +kernel
theorem dX5_told_70 : decode cX5_told 70 = .ok (.ireturn, 1) := by decide +kernel
theorem dX5_told_71 : decode cX5_told 71 = .ok (.aload_n 0, 1) := by decide +kernel
theorem dX5_told_72 : decode cX5_told 72 = .ok (.getfield 10, 3) := by decide +kernel
theorem dX5_told_75 : decode cX5_told 75 = .ok (.invokevirtual 52, 3) := by decide +kernel
theorem dX5_told_78 : decode cX5_told 78 = .ok (.ireturn, 1) := by decide +kernel
theorem dX5_told_79 : decode cX5_told 79 = .ok (.aload_n 0, 1) := by decide +kernel
theorem dX5_told_80 : decode cX5_told 80 = .ok (.getfield 10, 3) := by decide +kernel
theorem dX5_told_83 : decode cX5_told 83 = .ok (.invokevirtual 206, 3) := by decide +kernel
theorem dX5_told_86 : decode cX5_told 86 = .ok (.ireturn, 1) := by decide +kernel
theorem dX5_told_87 : decode cX5_told 87 = .ok (.aload_n 0, 1) := by decide +kernel
theorem dX5_told_88 : decode cX5_told 88 = .ok (.getfield 10, 3) := by decide +kernel
theorem dX5_told_91 : decode cX5_told 91 = .ok (.invokevirtual 114, 3) := by decide +kernel
theorem dX5_told_94 : decode cX5_told 94 = .ok (.ireturn, 1) := by decide +kernel
theorem dX5_told_95 : decode cX5_told 95 = .ok (.aload_n 0, 1) := by decide +kernel
theorem dX5_told_96 : decode cX5_told 96 = .ok (.getfield 19, 3) := by decide +kernel
theorem dX5_told_99 : decode cX5_told 99 = .ok (.invokevirtual 186, 3) := by decide +kernel
theorem dX5_told_102 : decode cX5_told 102 = .ok (.ireturn, 1) := by decide +kernel
theorem dX5_told_103 : decode cX5_told 103 = .ok (.aload_n 0, 1) := by decide +kernel
theorem dX5_told_104 : decode cX5_told 104 = .ok (.bipush (-2), 2) := by decide +kernel
theorem dX5_told_106 : decode cX5_told 106 = .ok (.invokevirtual 48, 3) := by decide +kernel
theorem dX5_told_109 : decode cX5_told 109 = .ok (.ireturn, 1) := by decide +kernel
set_option maxRecDepth 20000 in
theorem ggX5_digest_X5_told : GoodIn wsX5_digest wsX5_told := goodIn_r _ [8, 9, 10, 11, 12, 3, 13, 14, 15, 16, 17, 18, 19, 20, 21, 22, 23, 24, 25, 26, 27, 28, 29, 30, 31, 32, 33, 34, 35, 36, 37, 38, 39, 40, 41, 42, 43, 44, 7, 45, 179, 180, 181, 182, 183, 184, 185, 186, 187, 188, 189, 190, 191, 192, 193, 194, 195, 196, 197, 198, 199] (by decide +kernel) (by decide +kernel)
set_option maxRecDepth 20000 in
theorem gX5_digest_X5_told : GoodIn wsX5_digest (wsV RX5 213 RX5 yX5_told wsX5_told) := goodIn_app (goodIn_of _ (by decide +kernel)) ggX5_digest_X5_told
set_option maxRecDepth 20000 in
theorem ggX5_digest_X0_rule : GoodIn wsX5_digest wsX0_rule := goodIn_r _ [49, 30, 35, 50, 51, 7, 52, 53, 54, 55, 192, 193, 194, 195, 196] (by decide +kernel) (by decide +kernel)
set_option maxRecDepth 20000 in
theorem gX5_digest_X0_rule : GoodIn wsX5_digest (wsV RX5 95 RX0 yX0_rule wsX0_rule) := goodIn_app (goodIn_of _ (by decide +kernel)) ggX5_digest_X0_rule
set_option maxRecDepth 20000 in
theorem ggX5_digest_X0_days : GoodIn wsX5_digest wsX0_days := goodIn_r _ [24, 25, 192, 193, 194, 195, 196] (by decide +kernel) (by decide +kernel)
set_option maxRecDepth 20000 in
theorem gX5_digest_X0_days : GoodIn wsX5_digest (wsV RX5 52 RX0 yX0_days wsX0_days) := goodIn_app (goodIn_of _ (by decide +kernel)) ggX5_digest_X0_days
set_option maxRecDepth 20000 in
theorem ggX5_digest_X0_member : GoodIn wsX5_digest wsX0_member := goodIn_r _ [59, 60, 61, 62, 63, 23, 64, 25, 51, 7, 52, 53, 54, 55, 192, 193, 194, 195, 196] (by decide +kernel) (by decide +kernel)
set_option maxRecDepth 20000 in
theorem gX5_digest_X0_member : GoodIn wsX5_digest (wsV RX5 72 RX0 yX0_member wsX0_member) := goodIn_app (goodIn_of _ (by decide +kernel)) ggX5_digest_X0_member
set_option maxRecDepth 20000 in
theorem ggX5_digest_X5_nearest : GoodIn wsX5_digest wsX5_nearest := goodIn_r _ [68, 3, 69, 70, 62, 63, 23, 64, 25, 53, 54, 7, 55, 42, 43, 44, 45, 9, 71, 72, 73, 74, 75, 76, 77, 78, 79, 80, 81, 82, 83, 84, 85, 21, 22, 24, 86, 87, 88, 89, 90, 91, 92, 57, 58, 59, 60, 61, 51, 52, 93, 94, 95, 96, 47, 48, 49, 30, 35, 50, 97, 98, 99, 100, 101, 102, 27, 28, 29, 103, 104, 105, 106, 107, 108, 109, 110, 111, 112, 113, 114, 115, 116, 117, 118, 119, 120, 121, 122, 123, 124, 31, 32, 33, 34, 125, 126, 127, 128, 129, 130, 131, 132, 133, 134, 135, 136, 137, 138, 139, 140, 141, 179, 180, 181, 182, 183, 184, 185, 186, 192, 193, 194, 195, 196, 200, 201, 202, 203, 204, 205, 206, 207, 208] (by decide +kernel) (by decide +kernel)
set_option maxRecDepth 20000 in
theorem gX5_digest_X5_nearest : GoodIn wsX5_digest (wsV RX5 216 RX5 yX5_nearest wsX5_nearest) := goodIn_app (goodIn_of _ (by decide +kernel)) ggX5_digest_X5_nearest
set_option maxRecDepth 20000 in
theorem ggX5_digest_X5_errs : GoodIn wsX5_digest wsX5_errs := goodIn_r _ [145, 69, 3, 146, 51, 7, 52, 53, 54, 55, 42, 43, 44, 45, 9, 71, 72, 73, 74, 75, 76, 77, 78, 79, 80, 81, 82, 83, 84, 85, 21, 22, 23, 24, 25, 86, 87, 88, 89, 90, 91, 92, 57, 58, 59, 60, 61, 62, 63, 64, 93, 94, 95, 96, 47, 48, 49, 30, 35, 50, 97, 98, 99, 100, 101, 102, 27, 28, 29, 103, 104, 105, 106, 107, 108, 109, 110, 111, 112, 113, 114, 115, 116, 117, 118, 119, 120, 121, 122, 123, 124, 31, 32, 33, 34, 147, 148, 149, 150, 151, 152, 20, 56, 153, 154, 155, 156, 157, 158, 159, 126, 127, 128, 160, 130, 131, 132, 161, 162, 163, 164, 165, 166, 167, 168, 169, 170, 171, 172, 173, 174, 175, 176, 177, 178, 134, 135, 136, 137, 138, 139, 140, 141, 179, 180, 181, 182, 183, 184, 185, 186, 200, 201, 202, 203, 204, 205, 206, 207, 208, 192, 193, 194, 195, 196, 209, 210, 211, 212] (by decide +kernel) (by decide +kernel)
set_option maxRecDepth 20000 in
theorem gX5_digest_X5_errs : GoodIn wsX5_digest (wsV RX5 220 RX5 yX5_errs wsX5_errs) := goodIn_app (goodIn_of _ (by decide +kernel)) ggX5_digest_X5_errs
theorem dX5_digest_0 : decode cX5_digest 0 = .ok (.ldc2_w 209, 3) := by decide +kernel
theorem dX5_digest_3 : decode cX5_digest 3 = .ok (.lstore_n 1, 1) := by decide +kernel
theorem dX5_digest_4 : decode cX5_digest 4 = .ok (.iconst 0, 1) := by decide +kernel
theorem dX5_digest_5 : decode cX5_digest 5 = .ok (.istore_n 3, 1) := by decide +kernel
theorem dX5_digest_6 : decode cX5_digest 6 = .ok (.iload_n 3, 1) := by decide +kernel
theorem dX5_digest_7 : decode cX5_digest 7 = .ok (.bipush 8, 2) := by decide +kernel
theorem dX5_digest_9 : decode cX5_digest 9 = .ok (.if_icmp .ge 22, 3) := by decide +kernel
theorem dX5_digest_12 : decode cX5_digest 12 = .ok (.ldc2_w 211, 3) := by decide +kernel
theorem dX5_digest_15 : decode cX5_digest 15 = .ok (.lload_n 1, 1) := by decide +kernel
theorem dX5_digest_16 : decode cX5_digest 16 = .ok (.lmul, 1) := by decide +kernel
theorem dX5_digest_17 : decode cX5_digest 17 = .ok (.aload_n 0, 1) := by decide +kernel
theorem dX5_digest_18 : decode cX5_digest 18 = .ok (.iload_n 3, 1) := by decide +kernel
theorem dX5_digest_19 : decode cX5_digest 19 = .ok (.invokevirtual 213, 3) := by decide +kernel
theorem dX5_digest_22 : decode cX5_digest 22 = .ok (.i2l, 1) := by decide +kernel
theorem dX5_digest_23 : decode cX5_digest 23 = .ok (.ladd, 1) := by decide +kernel
theorem dX5_digest_24 : decode cX5_digest 24 = .ok (.lstore_n 1, 1) := by decide +kernel
theorem dX5_digest_25 : decode cX5_digest 25 = .ok (.iinc 3 1, 3) := by decide +kernel
theorem dX5_digest_28 : decode cX5_digest 28 = .ok (.goto (-22), 3) := by decide +kernel
theorem dX5_digest_31 : decode cX5_digest 31 = .ok (.iconst 0, 1) := by decide +kernel
theorem dX5_digest_32 : decode cX5_digest 32 = .ok (.istore_n 3, 1) := by decide +kernel
theorem dX5_digest_33 : decode cX5_digest 33 = .ok (.iload_n 3, 1) := by decide +kernel
theorem dX5_digest_34 : decode cX5_digest 34 = .ok (.iconst 4, 1) := by decide +kernel
theorem dX5_digest_35 : decode cX5_digest 35 = .ok (.if_icmp .ge 25, 3) := by decide +kernel
theorem dX5_digest_38 : decode cX5_digest 38 = .ok (.ldc2_w 211, 3) := by decide +kernel
theorem dX5_digest_41 : decode cX5_digest 41 = .ok (.lload_n 1, 1) := by decide +kernel
theorem dX5_digest_42 : decode cX5_digest 42 = .ok (.lmul, 1) := by decide +kernel
theorem dX5_digest_43 : decode cX5_digest 43 = .ok (.aload_n 0, 1) := by decide +kernel
theorem dX5_digest_44 : decode cX5_digest 44 = .ok (.getfield 10, 3) := by decide +kernel
theorem dX5_digest_47 : decode cX5_digest 47 = .ok (.iload_n 3, 1) := by decide +kernel
theorem dX5_digest_48 : decode cX5_digest 48 = .ok (.invokevirtual 95, 3) := by decide +kernel
theorem dX5_digest_51 : decode cX5_digest 51 = .ok (.i2l, 1) := by decide +kernel
theorem dX5_digest_52 : decode cX5_digest 52 = .ok (.ladd, 1) := by decide +kernel
theorem dX5_digest_53 : decode cX5_digest 53 = .ok (.lstore_n 1, 1) := by decide +kernel
theorem dX5_digest_54 : decode cX5_digest 54 = .ok (.iinc 3 1, 3) := by decide +kernel
theorem dX5_digest_57 : decode cX5_digest 57 = .ok (.goto (-24), 3) := by decide +kernel
theorem dX5_digest_60 : decode cX5_digest 60 = .ok (.iconst 0, 1) := by decide +kernel
theorem dX5_digest_61 : decode cX5_digest 61 = .ok (.istore_n 3, 1) := by decide +kernel
theorem dX5_digest_62 : decode cX5_digest 62 = .ok (.iload_n 3, 1) := by decide +kernel
theorem dX5_digest_63 : decode cX5_digest 63 = .ok (.aload_n 0, 1) := by decide +kernel
theorem dX5_digest_64 : decode cX5_digest 64 = .ok (.getfield 10, 3) := by decide +kernel
theorem dX5_digest_67 : decode cX5_digest 67 = .ok (.invokevirtual 52, 3) := by decide +kernel
theorem dX5_digest_70 : decode cX5_digest 70 = .ok (.if_icmp .ge 42, 3) := by decide +kernel
theorem dX5_digest_73 : decode cX5_digest 73 = .ok (.iconst 0, 1) := by decide +kernel
theorem dX5_digest_74 : decode cX5_digest 74 = .ok (.istore 4, 2) := by decide +kernel
theorem dX5_digest_76 : decode cX5_digest 76 = .ok (.iload 4, 2) := by decide +kernel
theorem dX5_digest_78 : decode cX5_digest 78 = .ok (.iconst 4, 1) := by decide +kernel
theorem dX5_digest_79 : decode cX5_digest 79 = .ok (.if_icmp .ge 27, 3) := by decide +kernel
theorem dX5_digest_82 : decode cX5_digest 82 = .ok (.ldc2_w 211, 3) := by decide +kernel
theorem dX5_digest_85 : decode cX5_digest 85 = .ok (.lload_n 1, 1) := by decide +kernel
theorem dX5_digest_86 : decode cX5_digest 86 = .ok (.lmul, 1) := by decide +kernel
theorem dX5_digest_87 : decode cX5_digest 87 = .ok (.aload_n 0, 1) := by decide +kernel
theorem dX5_digest_88 : decode cX5_digest 88 = .ok (.getfield 10, 3) := by decide +kernel
theorem dX5_digest_91 : decode cX5_digest 91 = .ok (.iload_n 3, 1) := by decide +kernel
theorem dX5_digest_92 : decode cX5_digest 92 = .ok (.iload 4, 2) := by decide +kernel
theorem dX5_digest_94 : decode cX5_digest 94 = .ok (.invokevirtual 72, 3) := by decide +kernel
theorem dX5_digest_97 : decode cX5_digest 97 = .ok (.i2l, 1) := by decide +kernel
theorem dX5_digest_98 : decode cX5_digest 98 = .ok (.ladd, 1) := by decide +kernel
theorem dX5_digest_99 : decode cX5_digest 99 = .ok (.lstore_n 1, 1) := by decide +kernel
theorem dX5_digest_100 : decode cX5_digest 100 = .ok (.iinc 4 1, 3) := by decide +kernel
theorem dX5_digest_103 : decode cX5_digest 103 = .ok (.goto (-27), 3) := by decide +kernel
theorem dX5_digest_106 : decode cX5_digest 106 = .ok (.iinc 3 1, 3) := by decide +kernel
theorem dX5_digest_109 : decode cX5_digest 109 = .ok (.goto (-47), 3) := by decide +kernel
theorem dX5_digest_112 : decode cX5_digest 112 = .ok (.iconst 0, 1) := by decide +kernel
theorem dX5_digest_113 : decode cX5_digest 113 = .ok (.istore_n 3, 1) := by decide +kernel
theorem dX5_digest_114 : decode cX5_digest 114 = .ok (.iload_n 3, 1) := by decide +kernel
theorem dX5_digest_115 : decode cX5_digest 115 = .ok (.aload_n 0, 1) := by decide +kernel
theorem dX5_digest_116 : decode cX5_digest 116 = .ok (.getfield 10, 3) := by decide +kernel
theorem dX5_digest_119 : decode cX5_digest 119 = .ok (.invokevirtual 52, 3) := by decide +kernel
theorem dX5_digest_122 : decode cX5_digest 122 = .ok (.if_icmp .ge 39, 3) := by decide +kernel
theorem dX5_digest_125 : decode cX5_digest 125 = .ok (.ldc2_w 211, 3) := by decide +kernel
theorem dX5_digest_128 : decode cX5_digest 128 = .ok (.lload_n 1, 1) := by decide +kernel
theorem dX5_digest_129 : decode cX5_digest 129 = .ok (.lmul, 1) := by decide +kernel
theorem dX5_digest_130 : decode cX5_digest 130 = .ok (.aload_n 0, 1) := by decide +kernel
theorem dX5_digest_131 : decode cX5_digest 131 = .ok (.iload_n 3, 1) := by decide +kernel
theorem dX5_digest_132 : decode cX5_digest 132 = .ok (.iconst 0, 1) := by decide +kernel
theorem dX5_digest_133 : decode cX5_digest 133 = .ok (.iconst 0, 1) := by decide +kernel
theorem dX5_digest_134 : decode cX5_digest 134 = .ok (.invokevirtual 216, 3) := by decide +kernel
theorem dX5_digest_137 : decode cX5_digest 137 = .ok (.i2l, 1) := by decide +kernel
theorem dX5_digest_138 : decode cX5_digest 138 = .ok (.ladd, 1) := by decide +kernel
theorem dX5_digest_139 : decode cX5_digest 139 = .ok (.lstore_n 1, 1) := by decide +kernel
theorem dX5_digest_140 : decode cX5_digest 140 = .ok (.ldc2_w 211, 3) := by decide +kernel
theorem dX5_digest_143 : decode cX5_digest 143 = .ok (.lload_n 1, 1) := by decide +kernel
theorem dX5_digest_144 : decode cX5_digest 144 = .ok (.lmul, 1) := by decide +kernel
theorem dX5_digest_145 : decode cX5_digest 145 = .ok (.aload_n 0, 1) := by decide +kernel
theorem dX5_digest_146 : decode cX5_digest 146 = .ok (.iload_n 3, 1) := by decide +kernel
theorem dX5_digest_147 : decode cX5_digest 147 = .ok (.iconst 0, 1) := by decide +kernel
theorem dX5_digest_148 : decode cX5_digest 148 = .ok (.iconst 1, 1) := by decide +kernel
theorem dX5_digest_149 : decode cX5_digest 149 = .ok (.invokevirtual 216, 3) := by decide +kernel
theorem dX5_digest_152 : decode cX5_digest 152 = .ok (.i2l, 1) := by decide +kernel
theorem dX5_digest_153 : decode cX5_digest 153 = .ok (.ladd, 1) := by decide +kernel
theorem dX5_digest_154 : decode cX5_digest 154 = .ok (.lstore_n 1, 1) := by decide +kernel
theorem dX5_digest_155 : decode cX5_digest 155 = .ok (.iinc 3 1, 3) := by decide +kernel
theorem dX5_digest_158 : decode cX5_digest 158 = .ok (.goto (-44), 3) := by decide +kernel
theorem dX5_digest_161 : decode cX5_digest 161 = .ok (.ldc2_w 211, 3) := by decide +kernel
theorem dX5_digest_164 : decode cX5_digest 164 = .ok (.lload_n 1, 1) := by decide +kernel
theorem dX5_digest_165 : decode cX5_digest 165 = .ok (.lmul, 1) := by decide +kernel
theorem dX5_digest_166 : decode cX5_digest 166 = .ok (.aload_n 0, 1) := by decide +kernel
theorem dX5_digest_167 : decode cX5_digest 167 = .ok (.iconst 0, 1) := by decide +kernel
theorem dX5_digest_168 : decode cX5_digest 168 = .ok (.invokevirtual 220, 3) := by decide +kernel
theorem dX5_digest_171 : decode cX5_digest 171 = .ok (.i2l, 1) := by decide +kernel
theorem dX5_digest_172 : decode cX5_digest 172 = .ok (.ladd, 1) := by decide +kernel
theorem dX5_digest_173 : decode cX5_digest 173 = .ok (.lreturn, 1) := by decide +kernel
theorem dX5_refuseBad_0 : decode cX5_refuseBad 0 = .ok (.aload_n 0, 1) := by decide +kernel
theorem dX5_refuseBad_1 : decode cX5_refuseBad 1 = .ok (.dup, 1) := by decide +kernel
theorem dX5_refuseBad_2 : decode cX5_refuseBad 2 = .ok (.getfield 200, 3) := by decide +kernel
theorem dX5_refuseBad_5 : decode cX5_refuseBad 5 = .ok (.iconst 1, 1) := by decide +kernel
theorem dX5_refuseBad_6 : decode cX5_refuseBad 6 = .ok (.iadd, 1) := by decide +kernel
theorem dX5_refuseBad_7 : decode cX5_refuseBad 7 = .ok (.putfield 200, 3) := by decide +kernel
theorem dX5_refuseBad_10 : decode cX5_refuseBad 10 = .ok (.iload_n 1, 1) := by decide +kernel
theorem dX5_refuseBad_11 : decode cX5_refuseBad 11 = .ok (.ireturn, 1) := by decide +kernel
theorem dX5_refuseFull_0 : decode cX5_refuseFull 0 = .ok (.aload_n 0, 1) := by decide +kernel
theorem dX5_refuseFull_1 : decode cX5_refuseFull 1 = .ok (.dup, 1) := by decide +kernel
theorem dX5_refuseFull_2 : decode cX5_refuseFull 2 = .ok (.getfield 203, 3) := by decide +kernel
theorem dX5_refuseFull_5 : decode cX5_refuseFull 5 = .ok (.iconst 1, 1) := by decide +kernel
theorem dX5_refuseFull_6 : decode cX5_refuseFull 6 = .ok (.iadd, 1) := by decide +kernel
theorem dX5_refuseFull_7 : decode cX5_refuseFull 7 = .ok (.putfield 203, 3) := by decide +kernel
theorem dX5_refuseFull_10 : decode cX5_refuseFull 10 = .ok (.bipush (-4), 2) := by decide +kernel
theorem dX5_refuseFull_12 : decode cX5_refuseFull 12 = .ok (.ireturn, 1) := by decide +kernel
set_option maxRecDepth 20000 in
theorem ggX5_keepState_X3_push : GoodIn wsX5_keepState wsX3_push := goodIn_r _ [8, 9, 10, 11, 12, 13, 14, 15, 16, 17, 18, 19, 20, 21, 22, 23, 24, 25, 26, 27, 28, 29, 44, 45, 46, 47, 48, 49, 50, 51] (by decide +kernel) (by decide +kernel)
set_option maxRecDepth 20000 in
theorem gX5_keepState_X3_push : GoodIn wsX5_keepState (wsV RX5 223 RX3 yX3_push wsX3_push) := goodIn_app (goodIn_of _ (by decide +kernel)) ggX5_keepState_X3_push
set_option maxRecDepth 20000 in
theorem ggX5_keepState_X2_forget : GoodIn wsX5_keepState wsX2_forget := goodIn_r _ [34, 35, 52, 53, 54, 55, 56, 57, 58, 59, 60] (by decide +kernel) (by decide +kernel)
set_option maxRecDepth 20000 in
theorem gX5_keepState_X2_forget : GoodIn wsX5_keepState (wsV RX5 197 RX2 yX2_forget wsX2_forget) := goodIn_app (goodIn_of _ (by decide +kernel)) ggX5_keepState_X2_forget
theorem dX5_keepState_0 : decode cX5_keepState 0 = .ok (.aload_n 0, 1) := by decide +kernel
theorem dX5_keepState_1 : decode cX5_keepState 1 = .ok (.getfield 19, 3) := by decide +kernel
theorem dX5_keepState_4 : decode cX5_keepState 4 = .ok (.aload_n 0, 1) := by decide +kernel
theorem dX5_keepState_5 : decode cX5_keepState 5 = .ok (.getfield 10, 3) := by decide +kernel
theorem dX5_keepState_8 : decode cX5_keepState 8 = .ok (.invokevirtual 223, 3) := by decide +kernel
theorem dX5_keepState_11 : decode cX5_keepState 11 = .ok (.aload_n 0, 1) := by decide +kernel
theorem dX5_keepState_12 : decode cX5_keepState 12 = .ok (.getfield 26, 3) := by decide +kernel
theorem dX5_keepState_15 : decode cX5_keepState 15 = .ok (.invokevirtual 197, 3) := by decide +kernel
theorem dX5_keepState_18 : decode cX5_keepState 18 = .ok (.return_, 1) := by decide +kernel
set_option maxRecDepth 20000 in
theorem ggX5_gatherFollowers_X2_learn : GoodIn wsX5_gatherFollowers wsX2_learn := goodIn_r _ [8, 9, 10, 11, 12, 13, 14, 15, 16, 17, 18, 19, 20, 21, 22, 23, 24, 25, 26, 7, 27, 28, 29, 30, 31, 32, 33, 34, 35, 36, 37, 38, 39, 40, 41, 42, 43, 44, 45, 46, 47, 48, 49, 50, 51, 52, 53, 54, 55, 56, 57, 58, 59, 60, 61, 62, 63, 64, 65, 66, 67, 68, 69, 70, 71, 72, 73, 74, 75, 76, 77, 78, 79, 80, 81, 82, 83, 84, 85, 121, 122, 123, 124, 125, 126, 127, 128, 129, 130, 131, 132, 133, 134] (by decide +kernel) (by decide +kernel)
set_option maxRecDepth 20000 in
theorem gX5_gatherFollowers_X2_learn : GoodIn wsX5_gatherFollowers (wsV RX5 102 RX2 yX2_learn wsX2_learn) := goodIn_app (goodIn_of _ (by decide +kernel)) ggX5_gatherFollowers_X2_learn
set_option maxRecDepth 20000 in
theorem ggX5_gatherFollowers_X0_few : GoodIn wsX5_gatherFollowers wsX0_few := goodIn_r _ [89, 53, 130, 131, 132, 133, 134] (by decide +kernel) (by decide +kernel)
set_option maxRecDepth 20000 in
theorem gX5_gatherFollowers_X0_few : GoodIn wsX5_gatherFollowers (wsV RX5 114 RX0 yX0_few wsX0_few) := goodIn_app (goodIn_of _ (by decide +kernel)) ggX5_gatherFollowers_X0_few
set_option maxRecDepth 20000 in
theorem ggX5_gatherFollowers_X1_gather : GoodIn wsX5_gatherFollowers wsX1_gather := goodIn_r _ [94, 95, 96, 97, 98, 7, 99, 72, 10, 11, 12, 13, 82, 83, 84, 85, 14, 100, 101, 102, 103, 77, 104, 31, 32, 21, 33, 34, 35, 36, 37, 38, 23, 39, 40, 41, 42, 43, 44, 105, 79, 80, 81, 17, 59, 106, 107, 108, 93, 109, 110, 111, 112, 135, 136, 137, 138, 121, 122, 123, 124, 125, 126, 127, 128, 129, 130, 131, 132, 133, 134] (by decide +kernel) (by decide +kernel)
set_option maxRecDepth 20000 in
theorem gX5_gatherFollowers_X1_gather : GoodIn wsX5_gatherFollowers (wsV RX5 226 RX1 yX1_gather wsX1_gather) := goodIn_app (goodIn_of _ (by decide +kernel)) ggX5_gatherFollowers_X1_gather
theorem dX5_gatherFollowers_0 : decode cX5_gatherFollowers 0 = .ok (.aload_n 0, 1) := by decide +kernel
theorem dX5_gatherFollowers_1 : decode cX5_gatherFollowers 1 = .ok (.getfield 26, 3) := by decide +kernel
theorem dX5_gatherFollowers_4 : decode cX5_gatherFollowers 4 = .ok (.aload_n 0, 1) := by decide +kernel
theorem dX5_gatherFollowers_5 : decode cX5_gatherFollowers 5 = .ok (.getfield 10, 3) := by decide +kernel
theorem dX5_gatherFollowers_8 : decode cX5_gatherFollowers 8 = .ok (.iconst (-1), 1) := by decide +kernel
theorem dX5_gatherFollowers_9 : decode cX5_gatherFollowers 9 = .ok (.invokevirtual 102, 3) := by decide +kernel
theorem dX5_gatherFollowers_12 : decode cX5_gatherFollowers 12 = .ok (.aload_n 0, 1) := by decide +kernel
theorem dX5_gatherFollowers_13 : decode cX5_gatherFollowers 13 = .ok (.getfield 33, 3) := by decide +kernel
theorem dX5_gatherFollowers_16 : decode cX5_gatherFollowers 16 = .ok (.aload_n 0, 1) := by decide +kernel
theorem dX5_gatherFollowers_17 : decode cX5_gatherFollowers 17 = .ok (.getfield 10, 3) := by decide +kernel
theorem dX5_gatherFollowers_20 : decode cX5_gatherFollowers 20 = .ok (.aload_n 0, 1) := by decide +kernel
theorem dX5_gatherFollowers_21 : decode cX5_gatherFollowers 21 = .ok (.getfield 26, 3) := by decide +kernel
theorem dX5_gatherFollowers_24 : decode cX5_gatherFollowers 24 = .ok (.iload_n 1, 1) := by decide +kernel
theorem dX5_gatherFollowers_25 : decode cX5_gatherFollowers 25 = .ok (.iload_n 2, 1) := by decide +kernel
theorem dX5_gatherFollowers_26 : decode cX5_gatherFollowers 26 = .ok (.aload_n 0, 1) := by decide +kernel
theorem dX5_gatherFollowers_27 : decode cX5_gatherFollowers 27 = .ok (.getfield 10, 3) := by decide +kernel
theorem dX5_gatherFollowers_30 : decode cX5_gatherFollowers 30 = .ok (.invokevirtual 114, 3) := by decide +kernel
theorem dX5_gatherFollowers_33 : decode cX5_gatherFollowers 33 = .ok (.invokevirtual 226, 3) := by decide +kernel
theorem dX5_gatherFollowers_36 : decode cX5_gatherFollowers 36 = .ok (.return_, 1) := by decide +kernel
set_option maxRecDepth 20000 in
theorem ggX5_meanError_X0_days : GoodIn wsX5_meanError wsX0_days := goodIn_r _ [9, 10, 86, 87, 88, 89, 90] (by decide +kernel) (by decide +kernel)
set_option maxRecDepth 20000 in
theorem gX5_meanError_X0_days : GoodIn wsX5_meanError (wsV RX5 52 RX0 yX0_days wsX0_days) := goodIn_app (goodIn_of _ (by decide +kernel)) ggX5_meanError_X0_days
set_option maxRecDepth 20000 in
theorem ggX5_meanError_X0_member : GoodIn wsX5_meanError wsX0_member := goodIn_r _ [14, 15, 16, 17, 18, 8, 19, 10, 20, 21, 22, 23, 24, 25, 86, 87, 88, 89, 90] (by decide +kernel) (by decide +kernel)
set_option maxRecDepth 20000 in
theorem gX5_meanError_X0_member : GoodIn wsX5_meanError (wsV RX5 72 RX0 yX0_member wsX0_member) := goodIn_app (goodIn_of _ (by decide +kernel)) ggX5_meanError_X0_member
set_option maxRecDepth 20000 in
theorem ggX5_meanError_X1_gather : GoodIn wsX5_meanError wsX1_gather := goodIn_r _ [30, 31, 32, 33, 34, 35, 36, 37, 38, 39, 40, 41, 42, 43, 44, 45, 46, 47, 48, 49, 50, 51, 52, 12, 13, 8, 14, 15, 16, 17, 18, 19, 10, 20, 21, 22, 23, 24, 25, 53, 54, 55, 56, 57, 58, 59, 60, 61, 29, 62, 63, 64, 65, 91, 92, 93, 94, 95, 96, 97, 98, 99, 100, 101, 102, 103, 86, 87, 88, 89, 90] (by decide +kernel) (by decide +kernel)
set_option maxRecDepth 20000 in
theorem gX5_meanError_X1_gather : GoodIn wsX5_meanError (wsV RX5 226 RX1 yX1_gather wsX1_gather) := goodIn_app (goodIn_of _ (by decide +kernel)) ggX5_meanError_X1_gather
set_option maxRecDepth 20000 in
theorem ggX5_meanError_X1_size : GoodIn wsX5_meanError wsX1_size := goodIn_r _ [69, 31, 91, 92, 93, 94] (by decide +kernel) (by decide +kernel)
set_option maxRecDepth 20000 in
theorem gX5_meanError_X1_size : GoodIn wsX5_meanError (wsV RX5 137 RX1 yX1_size wsX1_size) := goodIn_app (goodIn_of _ (by decide +kernel)) ggX5_meanError_X1_size
set_option maxRecDepth 20000 in
theorem ggX5_meanError_X1_meanValue : GoodIn wsX5_meanError wsX1_meanValue := goodIn_r _ [73, 31, 63, 64, 74, 21, 75, 76, 91, 92, 93, 94] (by decide +kernel) (by decide +kernel)
set_option maxRecDepth 20000 in
theorem gX5_meanError_X1_meanValue : GoodIn wsX5_meanError (wsV RX5 149 RX1 yX1_meanValue wsX1_meanValue) := goodIn_app (goodIn_of _ (by decide +kernel)) ggX5_meanError_X1_meanValue
set_option maxRecDepth 20000 in
theorem ggX5_meanError_X5_valueOf : GoodIn wsX5_meanError wsX5_valueOf := goodIn_r _ [75, 76] (by decide +kernel) (by decide +kernel)
set_option maxRecDepth 20000 in
theorem gX5_meanError_X5_valueOf : GoodIn wsX5_meanError (va_wsS RX5 230 yX5_valueOf wsX5_valueOf) := goodIn_app (goodIn_of _ (by decide +kernel)) ggX5_meanError_X5_valueOf
theorem dX5_meanError_0 : decode cX5_meanError 0 = .ok (.fconst 0, 1) := by decide +kernel
theorem dX5_meanError_1 : decode cX5_meanError 1 = .ok (.fstore_n 3, 1) := by decide +kernel
theorem dX5_meanError_2 : decode cX5_meanError 2 = .ok (.iconst 0, 1) := by decide +kernel
theorem dX5_meanError_3 : decode cX5_meanError 3 = .ok (.istore 4, 2) := by decide +kernel
theorem dX5_meanError_5 : decode cX5_meanError 5 = .ok (.iconst 0, 1) := by decide +kernel
theorem dX5_meanError_6 : decode cX5_meanError 6 = .ok (.istore 5, 2) := by decide +kernel
theorem dX5_meanError_8 : decode cX5_meanError 8 = .ok (.iload 5, 2) := by decide +kernel
theorem dX5_meanError_10 : decode cX5_meanError 10 = .ok (.iconst 1, 1) := by decide +kernel
theorem dX5_meanError_11 : decode cX5_meanError 11 = .ok (.iadd, 1) := by decide +kernel
theorem dX5_meanError_12 : decode cX5_meanError 12 = .ok (.aload_n 0, 1) := by decide +kernel
theorem dX5_meanError_13 : decode cX5_meanError 13 = .ok (.getfield 10, 3) := by decide +kernel
theorem dX5_meanError_16 : decode cX5_meanError 16 = .ok (.invokevirtual 52, 3) := by decide +kernel
theorem dX5_meanError_19 : decode cX5_meanError 19 = .ok (.if_icmp .ge 96, 3) := by decide +kernel
theorem dX5_meanError_22 : decode cX5_meanError 22 = .ok (.aload_n 0, 1) := by decide +kernel
theorem dX5_meanError_23 : decode cX5_meanError 23 = .ok (.getfield 10, 3) := by decide +kernel
theorem dX5_meanError_26 : decode cX5_meanError 26 = .ok (.iload 5, 2) := by decide +kernel
theorem dX5_meanError_28 : decode cX5_meanError 28 = .ok (.iconst 1, 1) := by decide +kernel
theorem dX5_meanError_29 : decode cX5_meanError 29 = .ok (.iadd, 1) := by decide +kernel
theorem dX5_meanError_30 : decode cX5_meanError 30 = .ok (.iload_n 1, 1) := by decide +kernel
theorem dX5_meanError_31 : decode cX5_meanError 31 = .ok (.invokevirtual 72, 3) := by decide +kernel
theorem dX5_meanError_34 : decode cX5_meanError 34 = .ok (.istore 6, 2) := by decide +kernel
theorem dX5_meanError_36 : decode cX5_meanError 36 = .ok (.iload 6, 2) := by decide +kernel
theorem dX5_meanError_38 : decode cX5_meanError 38 = .ok (.sipush (-10000), 3) := by decide +kernel
theorem dX5_meanError_41 : decode cX5_meanError 41 = .ok (.if_icmp .eq 68, 3) := by decide +kernel
theorem dX5_meanError_44 : decode cX5_meanError 44 = .ok (.aload_n 0, 1) := by decide +kernel
theorem dX5_meanError_45 : decode cX5_meanError 45 = .ok (.getfield 33, 3) := by decide +kernel
theorem dX5_meanError_48 : decode cX5_meanError 48 = .ok (.aload_n 0, 1) := by decide +kernel
theorem dX5_meanError_49 : decode cX5_meanError 49 = .ok (.getfield 10, 3) := by decide +kernel
theorem dX5_meanError_52 : decode cX5_meanError 52 = .ok (.aload_n 0, 1) := by decide +kernel
theorem dX5_meanError_53 : decode cX5_meanError 53 = .ok (.getfield 26, 3) := by decide +kernel
theorem dX5_meanError_56 : decode cX5_meanError 56 = .ok (.iload 5, 2) := by decide +kernel
theorem dX5_meanError_58 : decode cX5_meanError 58 = .ok (.iload_n 1, 1) := by decide +kernel
theorem dX5_meanError_59 : decode cX5_meanError 59 = .ok (.iload_n 2, 1) := by decide +kernel
theorem dX5_meanError_60 : decode cX5_meanError 60 = .ok (.invokevirtual 226, 3) := by decide +kernel
theorem dX5_meanError_63 : decode cX5_meanError 63 = .ok (.aload_n 0, 1) := by decide +kernel
theorem dX5_meanError_64 : decode cX5_meanError 64 = .ok (.getfield 33, 3) := by decide +kernel
theorem dX5_meanError_67 : decode cX5_meanError 67 = .ok (.invokevirtual 137, 3) := by decide +kernel
theorem dX5_meanError_70 : decode cX5_meanError 70 = .ok (.ifCond .le 39, 3) := by decide +kernel
theorem dX5_meanError_73 : decode cX5_meanError 73 = .ok (.aload_n 0, 1) := by decide +kernel
theorem dX5_meanError_74 : decode cX5_meanError 74 = .ok (.getfield 33, 3) := by decide +kernel
theorem dX5_meanError_77 : decode cX5_meanError 77 = .ok (.invokevirtual 149, 3) := by decide +kernel
theorem dX5_meanError_80 : decode cX5_meanError 80 = .ok (.iload 6, 2) := by decide +kernel
theorem dX5_meanError_82 : decode cX5_meanError 82 = .ok (.invokestatic 230, 3) := by decide +kernel
theorem dX5_meanError_85 : decode cX5_meanError 85 = .ok (.fsub, 1) := by decide +kernel
theorem dX5_meanError_86 : decode cX5_meanError 86 = .ok (.fstore 7, 2) := by decide +kernel
theorem dX5_meanError_88 : decode cX5_meanError 88 = .ok (.fload_n 3, 1) := by decide +kernel
theorem dX5_meanError_89 : decode cX5_meanError 89 = .ok (.fload 7, 2) := by decide +kernel
theorem dX5_meanError_91 : decode cX5_meanError 91 = .ok (.fconst 0, 1) := by decide +kernel
theorem dX5_meanError_92 : decode cX5_meanError 92 = .ok (.fcmp .g, 1) := by decide +kernel
theorem dX5_meanError_93 : decode cX5_meanError 93 = .ok (.ifCond .ge 9, 3) := by decide +kernel
theorem dX5_meanError_96 : decode cX5_meanError 96 = .ok (.fload 7, 2) := by decide +kernel
theorem dX5_meanError_98 : decode cX5_meanError 98 = .ok (.fneg, 1) := by decide +kernel
theorem dX5_meanError_99 : decode cX5_meanError 99 = .ok (.goto 5, 3) := by decide +kernel
theorem dX5_meanError_102 : decode cX5_meanError 102 = .ok (.fload 7, 2) := by decide +kernel
theorem dX5_meanError_104 : decode cX5_meanError 104 = .ok (.fadd, 1) := by decide +kernel
theorem dX5_meanError_105 : decode cX5_meanError 105 = .ok (.fstore_n 3, 1) := by decide +kernel
theorem dX5_meanError_106 : decode cX5_meanError 106 = .ok (.iinc 4 1, 3) := by decide +kernel
theorem dX5_meanError_109 : decode cX5_meanError 109 = .ok (.iinc 5 1, 3) := by decide +kernel
theorem dX5_meanError_112 : decode cX5_meanError 112 = .ok (.goto (-104), 3) := by decide +kernel
theorem dX5_meanError_115 : decode cX5_meanError 115 = .ok (.iload 4, 2) := by decide +kernel
theorem dX5_meanError_117 : decode cX5_meanError 117 = .ok (.ifCond .ne 8, 3) := by decide +kernel
theorem dX5_meanError_120 : decode cX5_meanError 120 = .ok (.ldc 129, 2) := by decide +kernel
theorem dX5_meanError_122 : decode cX5_meanError 122 = .ok (.goto 8, 3) := by decide +kernel
theorem dX5_meanError_125 : decode cX5_meanError 125 = .ok (.fload_n 3, 1) := by decide +kernel
theorem dX5_meanError_126 : decode cX5_meanError 126 = .ok (.iload 4, 2) := by decide +kernel
theorem dX5_meanError_128 : decode cX5_meanError 128 = .ok (.i2f, 1) := by decide +kernel
theorem dX5_meanError_129 : decode cX5_meanError 129 = .ok (.fdiv, 1) := by decide +kernel
theorem dX5_meanError_130 : decode cX5_meanError 130 = .ok (.freturn, 1) := by decide +kernel
theorem dX5_isWithin_0 : decode cX5_isWithin 0 = .ok (.iload_n 0, 1) := by decide +kernel
theorem dX5_isWithin_1 : decode cX5_isWithin 1 = .ok (.iload_n 1, 1) := by decide +kernel
theorem dX5_isWithin_2 : decode cX5_isWithin 2 = .ok (.if_icmp .lt 12, 3) := by decide +kernel
theorem dX5_isWithin_5 : decode cX5_isWithin 5 = .ok (.iload_n 0, 1) := by decide +kernel
theorem dX5_isWithin_6 : decode cX5_isWithin 6 = .ok (.iload_n 2, 1) := by decide +kernel
theorem dX5_isWithin_7 : decode cX5_isWithin 7 = .ok (.if_icmp .gt 7, 3) := by decide +kernel
theorem dX5_isWithin_10 : decode cX5_isWithin 10 = .ok (.iconst 1, 1) := by decide +kernel
theorem dX5_isWithin_11 : decode cX5_isWithin 11 = .ok (.goto 4, 3) := by decide +kernel
theorem dX5_isWithin_14 : decode cX5_isWithin 14 = .ok (.iconst 0, 1) := by decide +kernel
theorem dX5_isWithin_15 : decode cX5_isWithin 15 = .ok (.ireturn, 1) := by decide +kernel
set_option maxRecDepth 20000 in
theorem ggX5_isMember_X5_isWithin : GoodIn wsX5_isMember wsX5_isWithin := goodIn_r _ [4] (by decide +kernel) (by decide +kernel)
set_option maxRecDepth 20000 in
theorem gX5_isMember_X5_isWithin : GoodIn wsX5_isMember (va_wsS RX5 81 yX5_isWithin wsX5_isWithin) := goodIn_app (goodIn_of _ (by decide +kernel)) ggX5_isMember_X5_isWithin
theorem dX5_isMember_0 : decode cX5_isMember 0 = .ok (.iload_n 0, 1) := by decide +kernel
theorem dX5_isMember_1 : decode cX5_isMember 1 = .ok (.iconst 0, 1) := by decide +kernel
theorem dX5_isMember_2 : decode cX5_isMember 2 = .ok (.iconst 3, 1) := by decide +kernel
theorem dX5_isMember_3 : decode cX5_isMember 3 = .ok (.invokestatic 81, 3) := by decide +kernel
theorem dX5_isMember_6 : decode cX5_isMember 6 = .ok (.ireturn, 1) := by decide +kernel
set_option maxRecDepth 20000 in
theorem ggX5_isNote_X5_isWithin : GoodIn wsX5_isNote wsX5_isWithin := goodIn_r _ [4] (by decide +kernel) (by decide +kernel)
set_option maxRecDepth 20000 in
theorem gX5_isNote_X5_isWithin : GoodIn wsX5_isNote (va_wsS RX5 81 yX5_isWithin wsX5_isWithin) := goodIn_app (goodIn_of _ (by decide +kernel)) ggX5_isNote_X5_isWithin
theorem dX5_isNote_0 : decode cX5_isNote 0 = .ok (.iload_n 0, 1) := by decide +kernel
theorem dX5_isNote_1 : decode cX5_isNote 1 = .ok (.sipush (-10000), 3) := by decide +kernel
theorem dX5_isNote_4 : decode cX5_isNote 4 = .ok (.if_icmp .eq 16, 3) := by decide +kernel
theorem dX5_isNote_7 : decode cX5_isNote 7 = .ok (.iload_n 0, 1) := by decide +kernel
theorem dX5_isNote_8 : decode cX5_isNote 8 = .ok (.sipush (-999), 3) := by decide +kernel
theorem dX5_isNote_11 : decode cX5_isNote 11 = .ok (.sipush 999, 3) := by decide +kernel
theorem dX5_isNote_14 : decode cX5_isNote 14 = .ok (.invokestatic 81, 3) := by decide +kernel
theorem dX5_isNote_17 : decode cX5_isNote 17 = .ok (.ifCond .eq 7, 3) := by decide +kernel
theorem dX5_isNote_20 : decode cX5_isNote 20 = .ok (.iconst 1, 1) := by decide +kernel
theorem dX5_isNote_21 : decode cX5_isNote 21 = .ok (.goto 4, 3) := by decide +kernel
theorem dX5_isNote_24 : decode cX5_isNote 24 = .ok (.iconst 0, 1) := by decide +kernel
theorem dX5_isNote_25 : decode cX5_isNote 25 = .ok (.ireturn, 1) := by decide +kernel
set_option maxRecDepth 20000 in
theorem ggX5_isRule_X5_isWithin : GoodIn wsX5_isRule wsX5_isWithin := goodIn_r _ [4] (by decide +kernel) (by decide +kernel)
set_option maxRecDepth 20000 in
theorem gX5_isRule_X5_isWithin : GoodIn wsX5_isRule (va_wsS RX5 81 yX5_isWithin wsX5_isWithin) := goodIn_app (goodIn_of _ (by decide +kernel)) ggX5_isRule_X5_isWithin
set_option maxRecDepth 20000 in
theorem ggX5_isRule_X5_isMember : GoodIn wsX5_isRule wsX5_isMember := goodIn_r _ [7, 1, 2, 3, 4] (by decide +kernel) (by decide +kernel)
set_option maxRecDepth 20000 in
theorem gX5_isRule_X5_isMember : GoodIn wsX5_isRule (va_wsS RX5 69 yX5_isMember wsX5_isMember) := goodIn_app (goodIn_of _ (by decide +kernel)) ggX5_isRule_X5_isMember
theorem dX5_isRule_0 : decode cX5_isRule 0 = .ok (.iload_n 0, 1) := by decide +kernel
theorem dX5_isRule_1 : decode cX5_isRule 1 = .ok (.iconst 4, 1) := by decide +kernel
theorem dX5_isRule_2 : decode cX5_isRule 2 = .ok (.if_icmp .ne 11, 3) := by decide +kernel
theorem dX5_isRule_5 : decode cX5_isRule 5 = .ok (.iload_n 1, 1) := by decide +kernel
theorem dX5_isRule_6 : decode cX5_isRule 6 = .ok (.iconst 0, 1) := by decide +kernel
theorem dX5_isRule_7 : decode cX5_isRule 7 = .ok (.bipush 9, 2) := by decide +kernel
theorem dX5_isRule_9 : decode cX5_isRule 9 = .ok (.invokestatic 81, 3) := by decide +kernel
theorem dX5_isRule_12 : decode cX5_isRule 12 = .ok (.ireturn, 1) := by decide +kernel
theorem dX5_isRule_13 : decode cX5_isRule 13 = .ok (.iload_n 0, 1) := by decide +kernel
theorem dX5_isRule_14 : decode cX5_isRule 14 = .ok (.iconst 5, 1) := by decide +kernel
theorem dX5_isRule_15 : decode cX5_isRule 15 = .ok (.if_icmp .ne 11, 3) := by decide +kernel
theorem dX5_isRule_18 : decode cX5_isRule 18 = .ok (.iload_n 1, 1) := by decide +kernel
theorem dX5_isRule_19 : decode cX5_isRule 19 = .ok (.iconst 1, 1) := by decide +kernel
theorem dX5_isRule_20 : decode cX5_isRule 20 = .ok (.bipush 12, 2) := by decide +kernel
theorem dX5_isRule_22 : decode cX5_isRule 22 = .ok (.invokestatic 81, 3) := by decide +kernel
theorem dX5_isRule_25 : decode cX5_isRule 25 = .ok (.ireturn, 1) := by decide +kernel
theorem dX5_isRule_26 : decode cX5_isRule 26 = .ok (.iload_n 0, 1) := by decide +kernel
theorem dX5_isRule_27 : decode cX5_isRule 27 = .ok (.invokestatic 69, 3) := by decide +kernel
theorem dX5_isRule_30 : decode cX5_isRule 30 = .ok (.ifCond .eq 17, 3) := by decide +kernel
theorem dX5_isRule_33 : decode cX5_isRule 33 = .ok (.iload_n 1, 1) := by decide +kernel
theorem dX5_isRule_34 : decode cX5_isRule 34 = .ok (.iconst 0, 1) := by decide +kernel
theorem dX5_isRule_35 : decode cX5_isRule 35 = .ok (.bipush 80, 2) := by decide +kernel
theorem dX5_isRule_37 : decode cX5_isRule 37 = .ok (.invokestatic 81, 3) := by decide +kernel
theorem dX5_isRule_40 : decode cX5_isRule 40 = .ok (.ifCond .eq 7, 3) := by decide +kernel
theorem dX5_isRule_43 : decode cX5_isRule 43 = .ok (.iconst 1, 1) := by decide +kernel
theorem dX5_isRule_44 : decode cX5_isRule 44 = .ok (.goto 4, 3) := by decide +kernel
theorem dX5_isRule_47 : decode cX5_isRule 47 = .ok (.iconst 0, 1) := by decide +kernel
theorem dX5_isRule_48 : decode cX5_isRule 48 = .ok (.ireturn, 1) := by decide +kernel
theorem dX5_isLess_0 : decode cX5_isLess 0 = .ok (.fload_n 0, 1) := by decide +kernel
theorem dX5_isLess_1 : decode cX5_isLess 1 = .ok (.fconst 0, 1) := by decide +kernel
theorem dX5_isLess_2 : decode cX5_isLess 2 = .ok (.fcmp .l, 1) := by decide +kernel
theorem dX5_isLess_3 : decode cX5_isLess 3 = .ok (.ifCond .lt 19, 3) := by decide +kernel
theorem dX5_isLess_6 : decode cX5_isLess 6 = .ok (.fload_n 1, 1) := by decide +kernel
theorem dX5_isLess_7 : decode cX5_isLess 7 = .ok (.fconst 0, 1) := by decide +kernel
theorem dX5_isLess_8 : decode cX5_isLess 8 = .ok (.fcmp .g, 1) := by decide +kernel
theorem dX5_isLess_9 : decode cX5_isLess 9 = .ok (.ifCond .lt 9, 3) := by decide +kernel
theorem dX5_isLess_12 : decode cX5_isLess 12 = .ok (.fload_n 0, 1) := by decide +kernel
theorem dX5_isLess_13 : decode cX5_isLess 13 = .ok (.fload_n 1, 1) := by decide +kernel
theorem dX5_isLess_14 : decode cX5_isLess 14 = .ok (.fcmp .g, 1) := by decide +kernel
theorem dX5_isLess_15 : decode cX5_isLess 15 = .ok (.ifCond .ge 7, 3) := by decide +kernel
theorem dX5_isLess_18 : decode cX5_isLess 18 = .ok (.iconst 1, 1) := by decide +kernel
theorem dX5_isLess_19 : decode cX5_isLess 19 = .ok (.goto 4, 3) := by decide +kernel
theorem dX5_isLess_22 : decode cX5_isLess 22 = .ok (.iconst 0, 1) := by decide +kernel
theorem dX5_isLess_23 : decode cX5_isLess 23 = .ok (.ireturn, 1) := by decide +kernel
theorem dX5_valueOf_0 : decode cX5_valueOf 0 = .ok (.iload_n 0, 1) := by decide +kernel
theorem dX5_valueOf_1 : decode cX5_valueOf 1 = .ok (.i2f, 1) := by decide +kernel
theorem dX5_valueOf_2 : decode cX5_valueOf 2 = .ok (.ldc 234, 2) := by decide +kernel
theorem dX5_valueOf_4 : decode cX5_valueOf 4 = .ok (.fdiv, 1) := by decide +kernel
theorem dX5_valueOf_5 : decode cX5_valueOf 5 = .ok (.freturn, 1) := by decide +kernel
set_option maxRecDepth 20000 in
theorem ggX5_bitsOrNone_X5_floatBits : GoodIn wsX5_bitsOrNone wsX5_floatBits := goodIn_r _ [4, 5, 6] (by decide +kernel) (by decide +kernel)
set_option maxRecDepth 20000 in
theorem gX5_bitsOrNone_X5_floatBits : GoodIn wsX5_bitsOrNone (va_wsS RX5 153 yX5_floatBits wsX5_floatBits) := goodIn_app (goodIn_of _ (by decide +kernel)) ggX5_bitsOrNone_X5_floatBits
theorem dX5_bitsOrNone_0 : decode cX5_bitsOrNone 0 = .ok (.fload_n 0, 1) := by decide +kernel
theorem dX5_bitsOrNone_1 : decode cX5_bitsOrNone 1 = .ok (.fconst 0, 1) := by decide +kernel
theorem dX5_bitsOrNone_2 : decode cX5_bitsOrNone 2 = .ok (.fcmp .g, 1) := by decide +kernel
theorem dX5_bitsOrNone_3 : decode cX5_bitsOrNone 3 = .ok (.ifCond .ge 7, 3) := by decide +kernel
theorem dX5_bitsOrNone_6 : decode cX5_bitsOrNone 6 = .ok (.iconst (-1), 1) := by decide +kernel
theorem dX5_bitsOrNone_7 : decode cX5_bitsOrNone 7 = .ok (.goto 7, 3) := by decide +kernel
theorem dX5_bitsOrNone_10 : decode cX5_bitsOrNone 10 = .ok (.fload_n 0, 1) := by decide +kernel
theorem dX5_bitsOrNone_11 : decode cX5_bitsOrNone 11 = .ok (.invokestatic 153, 3) := by decide +kernel
theorem dX5_bitsOrNone_14 : decode cX5_bitsOrNone 14 = .ok (.ireturn, 1) := by decide +kernel
theorem dX5_floatBits_0 : decode cX5_floatBits 0 = .ok (.fload_n 0, 1) := by decide +kernel
theorem dX5_floatBits_1 : decode cX5_floatBits 1 = .ok (.fconst 0, 1) := by decide +kernel
theorem dX5_floatBits_2 : decode cX5_floatBits 2 = .ok (.fcmp .l, 1) := by decide +kernel
theorem dX5_floatBits_3 : decode cX5_floatBits 3 = .ok (.ifCond .ne 5, 3) := by decide +kernel
theorem dX5_floatBits_6 : decode cX5_floatBits 6 = .ok (.iconst 0, 1) := by decide +kernel
theorem dX5_floatBits_7 : decode cX5_floatBits 7 = .ok (.ireturn, 1) := by decide +kernel
theorem dX5_floatBits_8 : decode cX5_floatBits 8 = .ok (.fload_n 0, 1) := by decide +kernel
theorem dX5_floatBits_9 : decode cX5_floatBits 9 = .ok (.fconst 0, 1) := by decide +kernel
theorem dX5_floatBits_10 : decode cX5_floatBits 10 = .ok (.fcmp .g, 1) := by decide +kernel
theorem dX5_floatBits_11 : decode cX5_floatBits 11 = .ok (.ifCond .ge 8, 3) := by decide +kernel
theorem dX5_floatBits_14 : decode cX5_floatBits 14 = .ok (.fload_n 0, 1) := by decide +kernel
theorem dX5_floatBits_15 : decode cX5_floatBits 15 = .ok (.fneg, 1) := by decide +kernel
theorem dX5_floatBits_16 : decode cX5_floatBits 16 = .ok (.goto 4, 3) := by decide +kernel
theorem dX5_floatBits_19 : decode cX5_floatBits 19 = .ok (.fload_n 0, 1) := by decide +kernel
theorem dX5_floatBits_20 : decode cX5_floatBits 20 = .ok (.fstore_n 1, 1) := by decide +kernel
theorem dX5_floatBits_21 : decode cX5_floatBits 21 = .ok (.bipush 127, 2) := by decide +kernel
theorem dX5_floatBits_23 : decode cX5_floatBits 23 = .ok (.istore_n 2, 1) := by decide +kernel
theorem dX5_floatBits_24 : decode cX5_floatBits 24 = .ok (.fload_n 1, 1) := by decide +kernel
theorem dX5_floatBits_25 : decode cX5_floatBits 25 = .ok (.fconst 2, 1) := by decide +kernel
theorem dX5_floatBits_26 : decode cX5_floatBits 26 = .ok (.fcmp .l, 1) := by decide +kernel
theorem dX5_floatBits_27 : decode cX5_floatBits 27 = .ok (.ifCond .lt 20, 3) := by decide +kernel
theorem dX5_floatBits_30 : decode cX5_floatBits 30 = .ok (.iload_n 2, 1) := by decide +kernel
theorem dX5_floatBits_31 : decode cX5_floatBits 31 = .ok (.sipush 254, 3) := by decide +kernel
theorem dX5_floatBits_34 : decode cX5_floatBits 34 = .ok (.if_icmp .ge 13, 3) := by decide +kernel
theorem dX5_floatBits_37 : decode cX5_floatBits 37 = .ok (.fload_n 1, 1) := by decide +kernel
theorem dX5_floatBits_38 : decode cX5_floatBits 38 = .ok (.fconst 2, 1) := by decide +kernel
theorem dX5_floatBits_39 : decode cX5_floatBits 39 = .ok (.fdiv, 1) := by decide +kernel
theorem dX5_floatBits_40 : decode cX5_floatBits 40 = .ok (.fstore_n 1, 1) := by decide +kernel
theorem dX5_floatBits_41 : decode cX5_floatBits 41 = .ok (.iinc 2 1, 3) := by decide +kernel
theorem dX5_floatBits_44 : decode cX5_floatBits 44 = .ok (.goto (-20), 3) := by decide +kernel
theorem dX5_floatBits_47 : decode cX5_floatBits 47 = .ok (.fload_n 1, 1) := by decide +kernel
theorem dX5_floatBits_48 : decode cX5_floatBits 48 = .ok (.fconst 1, 1) := by decide +kernel
theorem dX5_floatBits_49 : decode cX5_floatBits 49 = .ok (.fcmp .g, 1) := by decide +kernel
theorem dX5_floatBits_50 : decode cX5_floatBits 50 = .ok (.ifCond .ge 18, 3) := by decide +kernel
theorem dX5_floatBits_53 : decode cX5_floatBits 53 = .ok (.iload_n 2, 1) := by decide +kernel
theorem dX5_floatBits_54 : decode cX5_floatBits 54 = .ok (.iconst 1, 1) := by decide +kernel
theorem dX5_floatBits_55 : decode cX5_floatBits 55 = .ok (.if_icmp .le 13, 3) := by decide +kernel
theorem dX5_floatBits_58 : decode cX5_floatBits 58 = .ok (.fload_n 1, 1) := by decide +kernel
theorem dX5_floatBits_59 : decode cX5_floatBits 59 = .ok (.fconst 2, 1) := by decide +kernel
theorem dX5_floatBits_60 : decode cX5_floatBits 60 = .ok (.fmul, 1) := by decide +kernel
theorem dX5_floatBits_61 : decode cX5_floatBits 61 = .ok (.fstore_n 1, 1) := by decide +kernel
theorem dX5_floatBits_62 : decode cX5_floatBits 62 = .ok (.iinc 2 (-1), 3) := by decide +kernel
theorem dX5_floatBits_65 : decode cX5_floatBits 65 = .ok (.goto (-18), 3) := by decide +kernel
theorem dX5_floatBits_68 : decode cX5_floatBits 68 = .ok (.iload_n 2, 1) := by decide +kernel
theorem dX5_floatBits_69 : decode cX5_floatBits 69 = .ok (.bipush 23, 2) := by decide +kernel
theorem dX5_floatBits_71 : decode cX5_floatBits 71 = .ok (.ishl, 1) := by decide +kernel
theorem dX5_floatBits_72 : decode cX5_floatBits 72 = .ok (.fload_n 1, 1) := by decide +kernel
theorem dX5_floatBits_73 : decode cX5_floatBits 73 = .ok (.fconst 1, 1) := by decide +kernel
theorem dX5_floatBits_74 : decode cX5_floatBits 74 = .ok (.fsub, 1) := by decide +kernel
theorem dX5_floatBits_75 : decode cX5_floatBits 75 = .ok (.ldc 235, 2) := by decide +kernel
theorem dX5_floatBits_77 : decode cX5_floatBits 77 = .ok (.fmul, 1) := by decide +kernel
theorem dX5_floatBits_78 : decode cX5_floatBits 78 = .ok (.f2i, 1) := by decide +kernel
theorem dX5_floatBits_79 : decode cX5_floatBits 79 = .ok (.ior, 1) := by decide +kernel
theorem dX5_floatBits_80 : decode cX5_floatBits 80 = .ok (.istore_n 3, 1) := by decide +kernel
theorem dX5_floatBits_81 : decode cX5_floatBits 81 = .ok (.fload_n 0, 1) := by decide +kernel
theorem dX5_floatBits_82 : decode cX5_floatBits 82 = .ok (.fconst 0, 1) := by decide +kernel
theorem dX5_floatBits_83 : decode cX5_floatBits 83 = .ok (.fcmp .g, 1) := by decide +kernel
theorem dX5_floatBits_84 : decode cX5_floatBits 84 = .ok (.ifCond .ge 10, 3) := by decide +kernel
theorem dX5_floatBits_87 : decode cX5_floatBits 87 = .ok (.iload_n 3, 1) := by decide +kernel
theorem dX5_floatBits_88 : decode cX5_floatBits 88 = .ok (.ldc 236, 2) := by decide +kernel
theorem dX5_floatBits_90 : decode cX5_floatBits 90 = .ok (.ior, 1) := by decide +kernel
theorem dX5_floatBits_91 : decode cX5_floatBits 91 = .ok (.goto 4, 3) := by decide +kernel
theorem dX5_floatBits_94 : decode cX5_floatBits 94 = .ok (.iload_n 3, 1) := by decide +kernel
theorem dX5_floatBits_95 : decode cX5_floatBits 95 = .ok (.ireturn, 1) := by decide +kernel
theorem dX5_doubleBits_0 : decode cX5_doubleBits 0 = .ok (.dload_n 0, 1) := by decide +kernel
theorem dX5_doubleBits_1 : decode cX5_doubleBits 1 = .ok (.dconst 0, 1) := by decide +kernel
theorem dX5_doubleBits_2 : decode cX5_doubleBits 2 = .ok (.dcmp .l, 1) := by decide +kernel
theorem dX5_doubleBits_3 : decode cX5_doubleBits 3 = .ok (.ifCond .ne 5, 3) := by decide +kernel
theorem dX5_doubleBits_6 : decode cX5_doubleBits 6 = .ok (.lconst 0, 1) := by decide +kernel
theorem dX5_doubleBits_7 : decode cX5_doubleBits 7 = .ok (.lreturn, 1) := by decide +kernel
theorem dX5_doubleBits_8 : decode cX5_doubleBits 8 = .ok (.dload_n 0, 1) := by decide +kernel
theorem dX5_doubleBits_9 : decode cX5_doubleBits 9 = .ok (.dconst 0, 1) := by decide +kernel
theorem dX5_doubleBits_10 : decode cX5_doubleBits 10 = .ok (.dcmp .g, 1) := by decide +kernel
theorem dX5_doubleBits_11 : decode cX5_doubleBits 11 = .ok (.ifCond .ge 8, 3) := by decide +kernel
theorem dX5_doubleBits_14 : decode cX5_doubleBits 14 = .ok (.dload_n 0, 1) := by decide +kernel
theorem dX5_doubleBits_15 : decode cX5_doubleBits 15 = .ok (.dneg, 1) := by decide +kernel
theorem dX5_doubleBits_16 : decode cX5_doubleBits 16 = .ok (.goto 4, 3) := by decide +kernel
theorem dX5_doubleBits_19 : decode cX5_doubleBits 19 = .ok (.dload_n 0, 1) := by decide +kernel
theorem dX5_doubleBits_20 : decode cX5_doubleBits 20 = .ok (.dstore_n 2, 1) := by decide +kernel
theorem dX5_doubleBits_21 : decode cX5_doubleBits 21 = .ok (.sipush 1023, 3) := by decide +kernel
theorem dX5_doubleBits_24 : decode cX5_doubleBits 24 = .ok (.istore 4, 2) := by decide +kernel
theorem dX5_doubleBits_26 : decode cX5_doubleBits 26 = .ok (.dload_n 2, 1) := by decide +kernel
theorem dX5_doubleBits_27 : decode cX5_doubleBits 27 = .ok (.ldc2_w 237, 3) := by decide +kernel
theorem dX5_doubleBits_30 : decode cX5_doubleBits 30 = .ok (.dcmp .l, 1) := by decide +kernel
theorem dX5_doubleBits_31 : decode cX5_doubleBits 31 = .ok (.ifCond .lt 23, 3) := by decide +kernel
theorem dX5_doubleBits_34 : decode cX5_doubleBits 34 = .ok (.iload 4, 2) := by decide +kernel
theorem dX5_doubleBits_36 : decode cX5_doubleBits 36 = .ok (.sipush 2046, 3) := by decide +kernel
theorem dX5_doubleBits_39 : decode cX5_doubleBits 39 = .ok (.if_icmp .ge 15, 3) := by decide +kernel
theorem dX5_doubleBits_42 : decode cX5_doubleBits 42 = .ok (.dload_n 2, 1) := by decide +kernel
theorem dX5_doubleBits_43 : decode cX5_doubleBits 43 = .ok (.ldc2_w 237, 3) := by decide +kernel
theorem dX5_doubleBits_46 : decode cX5_doubleBits 46 = .ok (.ddiv, 1) := by decide +kernel
theorem dX5_doubleBits_47 : decode cX5_doubleBits 47 = .ok (.dstore_n 2, 1) := by decide +kernel
theorem dX5_doubleBits_48 : decode cX5_doubleBits 48 = .ok (.iinc 4 1, 3) := by decide +kernel
theorem dX5_doubleBits_51 : decode cX5_doubleBits 51 = .ok (.goto (-25), 3) := by decide +kernel
theorem dX5_doubleBits_54 : decode cX5_doubleBits 54 = .ok (.dload_n 2, 1) := by decide +kernel
theorem dX5_doubleBits_55 : decode cX5_doubleBits 55 = .ok (.dconst 1, 1) := by decide +kernel
theorem dX5_doubleBits_56 : decode cX5_doubleBits 56 = .ok (.dcmp .g, 1) := by decide +kernel
theorem dX5_doubleBits_57 : decode cX5_doubleBits 57 = .ok (.ifCond .ge 21, 3) := by decide +kernel
theorem dX5_doubleBits_60 : decode cX5_doubleBits 60 = .ok (.iload 4, 2) := by decide +kernel
theorem dX5_doubleBits_62 : decode cX5_doubleBits 62 = .ok (.iconst 1, 1) := by decide +kernel
theorem dX5_doubleBits_63 : decode cX5_doubleBits 63 = .ok (.if_icmp .le 15, 3) := by decide +kernel
theorem dX5_doubleBits_66 : decode cX5_doubleBits 66 = .ok (.dload_n 2, 1) := by decide +kernel
theorem dX5_doubleBits_67 : decode cX5_doubleBits 67 = .ok (.ldc2_w 237, 3) := by decide +kernel
theorem dX5_doubleBits_70 : decode cX5_doubleBits 70 = .ok (.dmul, 1) := by decide +kernel
theorem dX5_doubleBits_71 : decode cX5_doubleBits 71 = .ok (.dstore_n 2, 1) := by decide +kernel
theorem dX5_doubleBits_72 : decode cX5_doubleBits 72 = .ok (.iinc 4 (-1), 3) := by decide +kernel
theorem dX5_doubleBits_75 : decode cX5_doubleBits 75 = .ok (.goto (-21), 3) := by decide +kernel
theorem dX5_doubleBits_78 : decode cX5_doubleBits 78 = .ok (.iload 4, 2) := by decide +kernel
theorem dX5_doubleBits_80 : decode cX5_doubleBits 80 = .ok (.i2l, 1) := by decide +kernel
theorem dX5_doubleBits_81 : decode cX5_doubleBits 81 = .ok (.bipush 52, 2) := by decide +kernel
theorem dX5_doubleBits_83 : decode cX5_doubleBits 83 = .ok (.lshl, 1) := by decide +kernel
theorem dX5_doubleBits_84 : decode cX5_doubleBits 84 = .ok (.dload_n 2, 1) := by decide +kernel
theorem dX5_doubleBits_85 : decode cX5_doubleBits 85 = .ok (.dconst 1, 1) := by decide +kernel
theorem dX5_doubleBits_86 : decode cX5_doubleBits 86 = .ok (.dsub, 1) := by decide +kernel
theorem dX5_doubleBits_87 : decode cX5_doubleBits 87 = .ok (.ldc2_w 239, 3) := by decide +kernel
theorem dX5_doubleBits_90 : decode cX5_doubleBits 90 = .ok (.dmul, 1) := by decide +kernel
theorem dX5_doubleBits_91 : decode cX5_doubleBits 91 = .ok (.d2l, 1) := by decide +kernel
theorem dX5_doubleBits_92 : decode cX5_doubleBits 92 = .ok (.lor, 1) := by decide +kernel
theorem dX5_doubleBits_93 : decode cX5_doubleBits 93 = .ok (.lstore 5, 2) := by decide +kernel
theorem dX5_doubleBits_95 : decode cX5_doubleBits 95 = .ok (.dload_n 0, 1) := by decide +kernel
theorem dX5_doubleBits_96 : decode cX5_doubleBits 96 = .ok (.dconst 0, 1) := by decide +kernel
theorem dX5_doubleBits_97 : decode cX5_doubleBits 97 = .ok (.dcmp .g, 1) := by decide +kernel
theorem dX5_doubleBits_98 : decode cX5_doubleBits 98 = .ok (.ifCond .ge 12, 3) := by decide +kernel
theorem dX5_doubleBits_101 : decode cX5_doubleBits 101 = .ok (.lload 5, 2) := by decide +kernel
theorem dX5_doubleBits_103 : decode cX5_doubleBits 103 = .ok (.ldc2_w 241, 3) := by decide +kernel
theorem dX5_doubleBits_106 : decode cX5_doubleBits 106 = .ok (.lor, 1) := by decide +kernel
theorem dX5_doubleBits_107 : decode cX5_doubleBits 107 = .ok (.goto 5, 3) := by decide +kernel
theorem dX5_doubleBits_110 : decode cX5_doubleBits 110 = .ok (.lload 5, 2) := by decide +kernel
theorem dX5_doubleBits_112 : decode cX5_doubleBits 112 = .ok (.lreturn, 1) := by decide +kernel
theorem dX6_bad_0 : decode cX6_bad 0 = .ok (.aload_n 0, 1) := by decide +kernel
theorem dX6_bad_1 : decode cX6_bad 1 = .ok (.getfield 1, 3) := by decide +kernel
theorem dX6_bad_4 : decode cX6_bad 4 = .ok (.iconst 0, 1) := by decide +kernel
theorem dX6_bad_5 : decode cX6_bad 5 = .ok (.dup2, 1) := by decide +kernel
theorem dX6_bad_6 : decode cX6_bad 6 = .ok (.iaload, 1) := by decide +kernel
theorem dX6_bad_7 : decode cX6_bad 7 = .ok (.iconst 1, 1) := by decide +kernel
theorem dX6_bad_8 : decode cX6_bad 8 = .ok (.iadd, 1) := by decide +kernel
theorem dX6_bad_9 : decode cX6_bad 9 = .ok (.iastore, 1) := by decide +kernel
theorem dX6_bad_10 : decode cX6_bad 10 = .ok (.bipush (-2), 2) := by decide +kernel
theorem dX6_bad_12 : decode cX6_bad 12 = .ok (.ireturn, 1) := by decide +kernel
theorem dX6_badly_0 : decode cX6_badly 0 = .ok (.aload_n 0, 1) := by decide +kernel
theorem dX6_badly_1 : decode cX6_badly 1 = .ok (.getfield 1, 3) := by decide +kernel
theorem dX6_badly_4 : decode cX6_badly 4 = .ok (.iconst 0, 1) := by decide +kernel
theorem dX6_badly_5 : decode cX6_badly 5 = .ok (.dup2, 1) := by decide +kernel
theorem dX6_badly_6 : decode cX6_badly 6 = .ok (.iaload, 1) := by decide +kernel
theorem dX6_badly_7 : decode cX6_badly 7 = .ok (.iconst 1, 1) := by decide +kernel
theorem dX6_badly_8 : decode cX6_badly 8 = .ok (.iadd, 1) := by decide +kernel
theorem dX6_badly_9 : decode cX6_badly 9 = .ok (.iastore, 1) := by decide +kernel
theorem dX6_badly_10 : decode cX6_badly 10 = .ok (.sipush (-20000), 3) := by decide +kernel
theorem dX6_badly_13 : decode cX6_badly 13 = .ok (.ireturn, 1) := by decide +kernel
theorem dX6_full_0 : decode cX6_full 0 = .ok (.aload_n 0, 1) := by decide +kernel
theorem dX6_full_1 : decode cX6_full 1 = .ok (.getfield 1, 3) := by decide +kernel
theorem dX6_full_4 : decode cX6_full 4 = .ok (.iconst 2, 1) := by decide +kernel
theorem dX6_full_5 : decode cX6_full 5 = .ok (.dup2, 1) := by decide +kernel
theorem dX6_full_6 : decode cX6_full 6 = .ok (.iaload, 1) := by decide +kernel
theorem dX6_full_7 : decode cX6_full 7 = .ok (.iconst 1, 1) := by decide +kernel
theorem dX6_full_8 : decode cX6_full 8 = .ok (.iadd, 1) := by decide +kernel
theorem dX6_full_9 : decode cX6_full 9 = .ok (.iastore, 1) := by decide +kernel
theorem dX6_full_10 : decode cX6_full 10 = .ok (.bipush (-4), 2) := by decide +kernel
theorem dX6_full_12 : decode cX6_full 12 = .ok (.ireturn, 1) := by decide +kernel
theorem dX6_in_0 : decode cX6_in 0 = .ok (.iload_n 0, 1) := by decide +kernel
theorem dX6_in_1 : decode cX6_in 1 = .ok (.iload_n 1, 1) := by decide +kernel
theorem dX6_in_2 : decode cX6_in 2 = .ok (.if_icmp .lt 12, 3) := by decide +kernel
theorem dX6_in_5 : decode cX6_in 5 = .ok (.iload_n 0, 1) := by decide +kernel
theorem dX6_in_6 : decode cX6_in 6 = .ok (.iload_n 2, 1) := by decide +kernel
theorem dX6_in_7 : decode cX6_in 7 = .ok (.if_icmp .gt 7, 3) := by decide +kernel
theorem dX6_in_10 : decode cX6_in 10 = .ok (.iconst 1, 1) := by decide +kernel
theorem dX6_in_11 : decode cX6_in 11 = .ok (.goto 4, 3) := by decide +kernel
theorem dX6_in_14 : decode cX6_in 14 = .ok (.iconst 0, 1) := by decide +kernel
theorem dX6_in_15 : decode cX6_in 15 = .ok (.ireturn, 1) := by decide +kernel
theorem dX6_init_0 : decode cX6_init 0 = .ok (.aload_n 0, 1) := by decide +kernel
theorem dX6_init_1 : decode cX6_init 1 = .ok (.invokespecial 7, 3) := by decide +kernel
theorem dX6_init_4 : decode cX6_init 4 = .ok (.aload_n 0, 1) := by decide +kernel
theorem dX6_init_5 : decode cX6_init 5 = .ok (.iconst 3, 1) := by decide +kernel
theorem dX6_init_6 : decode cX6_init 6 = .ok (.newarray .int, 2) := by decide +kernel
theorem dX6_init_8 : decode cX6_init 8 = .ok (.putfield 1, 3) := by decide +kernel
theorem dX6_init_11 : decode cX6_init 11 = .ok (.aload_n 0, 1) := by decide +kernel
theorem dX6_init_12 : decode cX6_init 12 = .ok (.bipush 6, 2) := by decide +kernel
theorem dX6_init_14 : decode cX6_init 14 = .ok (.newarray .int, 2) := by decide +kernel
theorem dX6_init_16 : decode cX6_init 16 = .ok (.putfield 13, 3) := by decide +kernel
theorem dX6_init_19 : decode cX6_init 19 = .ok (.aload_n 0, 1) := by decide +kernel
theorem dX6_init_20 : decode cX6_init 20 = .ok (.sipush 200, 3) := by decide +kernel
theorem dX6_init_23 : decode cX6_init 23 = .ok (.newarray .int, 2) := by decide +kernel
theorem dX6_init_25 : decode cX6_init 25 = .ok (.putfield 16, 3) := by decide +kernel
theorem dX6_init_28 : decode cX6_init 28 = .ok (.aload_n 0, 1) := by decide +kernel
theorem dX6_init_29 : decode cX6_init 29 = .ok (.sipush 1035, 3) := by decide +kernel
theorem dX6_init_32 : decode cX6_init 32 = .ok (.newarray .int, 2) := by decide +kernel
theorem dX6_init_34 : decode cX6_init 34 = .ok (.putfield 19, 3) := by decide +kernel
theorem dX6_init_37 : decode cX6_init 37 = .ok (.aload_n 0, 1) := by decide +kernel
theorem dX6_init_38 : decode cX6_init 38 = .ok (.bipush 50, 2) := by decide +kernel
theorem dX6_init_40 : decode cX6_init 40 = .ok (.newarray .int, 2) := by decide +kernel
theorem dX6_init_42 : decode cX6_init 42 = .ok (.putfield 22, 3) := by decide +kernel
theorem dX6_init_45 : decode cX6_init 45 = .ok (.aload_n 0, 1) := by decide +kernel
theorem dX6_init_46 : decode cX6_init 46 = .ok (.bipush 50, 2) := by decide +kernel
theorem dX6_init_48 : decode cX6_init 48 = .ok (.newarray .float, 2) := by decide +kernel
theorem dX6_init_50 : decode cX6_init 50 = .ok (.putfield 25, 3) := by decide +kernel
theorem dX6_init_53 : decode cX6_init 53 = .ok (.aload_n 0, 1) := by decide +kernel
theorem dX6_init_54 : decode cX6_init 54 = .ok (.bipush 50, 2) := by decide +kernel
theorem dX6_init_56 : decode cX6_init 56 = .ok (.newarray .int, 2) := by decide +kernel
theorem dX6_init_58 : decode cX6_init 58 = .ok (.putfield 29, 3) := by decide +kernel
theorem dX6_init_61 : decode cX6_init 61 = .ok (.aload_n 0, 1) := by decide +kernel
theorem dX6_init_62 : decode cX6_init 62 = .ok (.bipush 50, 2) := by decide +kernel
theorem dX6_init_64 : decode cX6_init 64 = .ok (.newarray .float, 2) := by decide +kernel
theorem dX6_init_66 : decode cX6_init 66 = .ok (.putfield 32, 3) := by decide +kernel
theorem dX6_init_69 : decode cX6_init 69 = .ok (.aload_n 0, 1) := by decide +kernel
theorem dX6_init_70 : decode cX6_init 70 = .ok (.bipush 50, 2) := by decide +kernel
theorem dX6_init_72 : decode cX6_init 72 = .ok (.newarray .int, 2) := by decide +kernel
theorem dX6_init_74 : decode cX6_init 74 = .ok (.putfield 35, 3) := by decide +kernel
theorem dX6_init_77 : decode cX6_init 77 = .ok (.aload_n 0, 1) := by decide +kernel
theorem dX6_init_78 : decode cX6_init 78 = .ok (.bipush 120, 2) := by decide +kernel
theorem dX6_init_80 : decode cX6_init 80 = .ok (.newarray .int, 2) := by decide +kernel
theorem dX6_init_82 : decode cX6_init 82 = .ok (.putfield 38, 3) := by decide +kernel
theorem dX6_init_85 : decode cX6_init 85 = .ok (.aload_n 0, 1) := by decide +kernel
theorem dX6_init_86 : decode cX6_init 86 = .ok (.iconst 4, 1) := by decide +kernel
theorem dX6_init_87 : decode cX6_init 87 = .ok (.newarray .int, 2) := by decide +kernel
theorem dX6_init_89 : decode cX6_init 89 = .ok (.putfield 41, 3) := by decide +kernel
theorem dX6_init_92 : decode cX6_init 92 = .ok (.iconst 0, 1) := by decide +kernel
theorem dX6_init_93 : decode cX6_init 93 = .ok (.istore_n 1, 1) := by decide +kernel
theorem dX6_init_94 : decode cX6_init 94 = .ok (.iload_n 1, 1) := by decide +kernel
theorem dX6_init_95 : decode cX6_init 95 = .ok (.iconst 4, 1) := by decide +kernel
theorem dX6_init_96 : decode cX6_init 96 = .ok (.if_icmp .ge 17, 3) := by decide +kernel
theorem dX6_init_99 : decode cX6_init 99 = .ok (.aload_n 0, 1) := by decide +kernel
theorem dX6_init_100 : decode cX6_init 100 = .ok (.getfield 13, 3) := by decide +kernel
theorem dX6_init_103 : decode cX6_init 103 = .ok (.iload_n 1, 1) := by decide +kernel
theorem dX6_init_104 : decode cX6_init 104 = .ok (.bipush 8, 2) := by decide +kernel
theorem dX6_init_106 : decode cX6_init 106 = .ok (.iastore, 1) := by decide +kernel
theorem dX6_init_107 : decode cX6_init 107 = .ok (.iinc 1 1, 3) := by decide +kernel
theorem dX6_init_110 : decode cX6_init 110 = .ok (.goto (-16), 3) := by decide +kernel
theorem dX6_init_113 : decode cX6_init 113 = .ok (.aload_n 0, 1) := by decide +kernel
theorem dX6_init_114 : decode cX6_init 114 = .ok (.getfield 13, 3) := by decide +kernel
theorem dX6_init_117 : decode cX6_init 117 = .ok (.iconst 5, 1) := by decide +kernel
theorem dX6_init_118 : decode cX6_init 118 = .ok (.iconst 4, 1) := by decide +kernel
theorem dX6_init_119 : decode cX6_init 119 = .ok (.iastore, 1) := by decide +kernel
theorem dX6_init_120 : decode cX6_init 120 = .ok (.return_, 1) := by decide +kernel
theorem dX6_isNoted_0 : decode cX6_isNoted 0 = .ok (.iload_n 0, 1) := by decide +kernel
theorem dX6_isNoted_1 : decode cX6_isNoted 1 = .ok (.sipush (-10000), 3) := by decide +kernel
theorem dX6_isNoted_4 : decode cX6_isNoted 4 = .ok (.if_icmp .eq 7, 3) := by decide +kernel
theorem dX6_isNoted_7 : decode cX6_isNoted 7 = .ok (.iconst 1, 1) := by decide +kernel
theorem dX6_isNoted_8 : decode cX6_isNoted 8 = .ok (.goto 4, 3) := by decide +kernel
theorem dX6_isNoted_11 : decode cX6_isNoted 11 = .ok (.iconst 0, 1) := by decide +kernel
theorem dX6_isNoted_12 : decode cX6_isNoted 12 = .ok (.ireturn, 1) := by decide +kernel
set_option maxRecDepth 20000 in
theorem ggX6_may_X6_in : GoodIn wsX6_may wsX6_in := goodIn_r _ [4] (by decide +kernel) (by decide +kernel)
set_option maxRecDepth 20000 in
theorem gX6_may_X6_in : GoodIn wsX6_may (va_wsS RX6 44 yX6_in wsX6_in) := goodIn_app (goodIn_of _ (by decide +kernel)) ggX6_may_X6_in
theorem dX6_may_0 : decode cX6_may 0 = .ok (.iload_n 0, 1) := by decide +kernel
theorem dX6_may_1 : decode cX6_may 1 = .ok (.sipush (-10000), 3) := by decide +kernel
theorem dX6_may_4 : decode cX6_may 4 = .ok (.if_icmp .eq 16, 3) := by decide +kernel
theorem dX6_may_7 : decode cX6_may 7 = .ok (.iload_n 0, 1) := by decide +kernel
theorem dX6_may_8 : decode cX6_may 8 = .ok (.sipush (-999), 3) := by decide +kernel
theorem dX6_may_11 : decode cX6_may 11 = .ok (.sipush 999, 3) := by decide +kernel
theorem dX6_may_14 : decode cX6_may 14 = .ok (.invokestatic 44, 3) := by decide +kernel
theorem dX6_may_17 : decode cX6_may 17 = .ok (.ifCond .eq 7, 3) := by decide +kernel
theorem dX6_may_20 : decode cX6_may 20 = .ok (.iconst 1, 1) := by decide +kernel
theorem dX6_may_21 : decode cX6_may 21 = .ok (.goto 4, 3) := by decide +kernel
theorem dX6_may_24 : decode cX6_may 24 = .ok (.iconst 0, 1) := by decide +kernel
theorem dX6_may_25 : decode cX6_may 25 = .ok (.ireturn, 1) := by decide +kernel
set_option maxRecDepth 20000 in
theorem ggX6_isDay_X6_in : GoodIn wsX6_isDay wsX6_in := goodIn_r _ [5] (by decide +kernel) (by decide +kernel)
set_option maxRecDepth 20000 in
theorem gX6_isDay_X6_in : GoodIn wsX6_isDay (va_wsS RX6 44 yX6_in wsX6_in) := goodIn_app (goodIn_of _ (by decide +kernel)) ggX6_isDay_X6_in
theorem dX6_isDay_0 : decode cX6_isDay 0 = .ok (.iload_n 1, 1) := by decide +kernel
theorem dX6_isDay_1 : decode cX6_isDay 1 = .ok (.iconst 0, 1) := by decide +kernel
theorem dX6_isDay_2 : decode cX6_isDay 2 = .ok (.aload_n 0, 1) := by decide +kernel
theorem dX6_isDay_3 : decode cX6_isDay 3 = .ok (.getfield 48, 3) := by decide +kernel
theorem dX6_isDay_6 : decode cX6_isDay 6 = .ok (.iconst 1, 1) := by decide +kernel
theorem dX6_isDay_7 : decode cX6_isDay 7 = .ok (.isub, 1) := by decide +kernel
theorem dX6_isDay_8 : decode cX6_isDay 8 = .ok (.invokestatic 44, 3) := by decide +kernel
theorem dX6_isDay_11 : decode cX6_isDay 11 = .ok (.ireturn, 1) := by decide +kernel
set_option maxRecDepth 20000 in
theorem ggX6_isMember_X6_in : GoodIn wsX6_isMember wsX6_in := goodIn_r _ [4] (by decide +kernel) (by decide +kernel)
set_option maxRecDepth 20000 in
theorem gX6_isMember_X6_in : GoodIn wsX6_isMember (va_wsS RX6 44 yX6_in wsX6_in) := goodIn_app (goodIn_of _ (by decide +kernel)) ggX6_isMember_X6_in
theorem dX6_isMember_0 : decode cX6_isMember 0 = .ok (.iload_n 0, 1) := by decide +kernel
theorem dX6_isMember_1 : decode cX6_isMember 1 = .ok (.iconst 0, 1) := by decide +kernel
theorem dX6_isMember_2 : decode cX6_isMember 2 = .ok (.iconst 3, 1) := by decide +kernel
theorem dX6_isMember_3 : decode cX6_isMember 3 = .ok (.invokestatic 44, 3) := by decide +kernel
theorem dX6_isMember_6 : decode cX6_isMember 6 = .ok (.ireturn, 1) := by decide +kernel
theorem dX6_leavesState_0 : decode cX6_leavesState 0 = .ok (.aload_n 0, 1) := by decide +kernel
theorem dX6_leavesState_1 : decode cX6_leavesState 1 = .ok (.getfield 52, 3) := by decide +kernel
theorem dX6_leavesState_4 : decode cX6_leavesState 4 = .ok (.iconst 5, 1) := by decide +kernel
theorem dX6_leavesState_5 : decode cX6_leavesState 5 = .ok (.if_icmp .ne 44, 3) := by decide +kernel
theorem dX6_leavesState_8 : decode cX6_leavesState 8 = .ok (.iconst 0, 1) := by decide +kernel
theorem dX6_leavesState_9 : decode cX6_leavesState 9 = .ok (.istore_n 1, 1) := by decide +kernel
theorem dX6_leavesState_10 : decode cX6_leavesState 10 = .ok (.iload_n 1, 1) := by decide +kernel
theorem dX6_leavesState_11 : decode cX6_leavesState 11 = .ok (.sipush 828, 3) := by decide +kernel
theorem dX6_leavesState_14 : decode cX6_leavesState 14 = .ok (.if_icmp .ge 25, 3) := by decide +kernel
theorem dX6_leavesState_17 : decode cX6_leavesState 17 = .ok (.aload_n 0, 1) := by decide +kernel
theorem dX6_leavesState_18 : decode cX6_leavesState 18 = .ok (.getfield 19, 3) := by decide +kernel
theorem dX6_leavesState_21 : decode cX6_leavesState 21 = .ok (.iload_n 1, 1) := by decide +kernel
theorem dX6_leavesState_22 : decode cX6_leavesState 22 = .ok (.aload_n 0, 1) := by decide +kernel
theorem dX6_leavesState_23 : decode cX6_leavesState 23 = .ok (.getfield 19, 3) := by decide +kernel
theorem dX6_leavesState_26 : decode cX6_leavesState 26 = .ok (.iload_n 1, 1) := by decide +kernel
theorem dX6_leavesState_27 : decode cX6_leavesState 27 = .ok (.sipush 207, 3) := by decide +kernel
theorem dX6_leavesState_30 : decode cX6_leavesState 30 = .ok (.iadd, 1) := by decide +kernel
theorem dX6_leavesState_31 : decode cX6_leavesState 31 = .ok (.iaload, 1) := by decide +kernel
theorem dX6_leavesState_32 : decode cX6_leavesState 32 = .ok (.iastore, 1) := by decide +kernel
theorem dX6_leavesState_33 : decode cX6_leavesState 33 = .ok (.iinc 1 1, 3) := by decide +kernel
theorem dX6_leavesState_36 : decode cX6_leavesState 36 = .ok (.goto (-26), 3) := by decide +kernel
theorem dX6_leavesState_39 : decode cX6_leavesState 39 = .ok (.aload_n 0, 1) := by decide +kernel
theorem dX6_leavesState_40 : decode cX6_leavesState 40 = .ok (.dup, 1) := by decide +kernel
theorem dX6_leavesState_41 : decode cX6_leavesState 41 = .ok (.getfield 52, 3) := by decide +kernel
theorem dX6_leavesState_44 : decode cX6_leavesState 44 = .ok (.iconst 1, 1) := by decide +kernel
theorem dX6_leavesState_45 : decode cX6_leavesState 45 = .ok (.isub, 1) := by decide +kernel
theorem dX6_leavesState_46 : decode cX6_leavesState 46 = .ok (.putfield 52, 3) := by decide +kernel
theorem dX6_leavesState_49 : decode cX6_leavesState 49 = .ok (.sipush 207, 3) := by decide +kernel
theorem dX6_leavesState_52 : decode cX6_leavesState 52 = .ok (.aload_n 0, 1) := by decide +kernel
theorem dX6_leavesState_53 : decode cX6_leavesState 53 = .ok (.getfield 52, 3) := by decide +kernel
theorem dX6_leavesState_56 : decode cX6_leavesState 56 = .ok (.imul, 1) := by decide +kernel
theorem dX6_leavesState_57 : decode cX6_leavesState 57 = .ok (.istore_n 1, 1) := by decide +kernel
theorem dX6_leavesState_58 : decode cX6_leavesState 58 = .ok (.aload_n 0, 1) := by decide +kernel
theorem dX6_leavesState_59 : decode cX6_leavesState 59 = .ok (.getfield 19, 3) := by decide +kernel
theorem dX6_leavesState_62 : decode cX6_leavesState 62 = .ok (.iload_n 1, 1) := by decide +kernel
theorem dX6_leavesState_63 : decode cX6_leavesState 63 = .ok (.aload_n 0, 1) := by decide +kernel
theorem dX6_leavesState_64 : decode cX6_leavesState 64 = .ok (.getfield 48, 3) := by decide +kernel
theorem dX6_leavesState_67 : decode cX6_leavesState 67 = .ok (.iastore, 1) := by decide +kernel
theorem dX6_leavesState_68 : decode cX6_leavesState 68 = .ok (.iconst 0, 1) := by decide +kernel
theorem dX6_leavesState_69 : decode cX6_leavesState 69 = .ok (.istore_n 2, 1) := by decide +kernel
theorem dX6_leavesState_70 : decode cX6_leavesState 70 = .ok (.iload_n 2, 1) := by decide +kernel
theorem dX6_leavesState_71 : decode cX6_leavesState 71 = .ok (.bipush 6, 2) := by decide +kernel
theorem dX6_leavesState_73 : decode cX6_leavesState 73 = .ok (.if_icmp .ge 25, 3) := by decide +kernel
theorem dX6_leavesState_76 : decode cX6_leavesState 76 = .ok (.aload_n 0, 1) := by decide +kernel
theorem dX6_leavesState_77 : decode cX6_leavesState 77 = .ok (.getfield 19, 3) := by decide +kernel
theorem dX6_leavesState_80 : decode cX6_leavesState 80 = .ok (.iload_n 1, 1) := by decide +kernel
theorem dX6_leavesState_81 : decode cX6_leavesState 81 = .ok (.iconst 1, 1) := by decide +kernel
theorem dX6_leavesState_82 : decode cX6_leavesState 82 = .ok (.iadd, 1) := by decide +kernel
theorem dX6_leavesState_83 : decode cX6_leavesState 83 = .ok (.iload_n 2, 1) := by decide +kernel
theorem dX6_leavesState_84 : decode cX6_leavesState 84 = .ok (.iadd, 1) := by decide +kernel
theorem dX6_leavesState_85 : decode cX6_leavesState 85 = .ok (.aload_n 0, 1) := by decide +kernel
theorem dX6_leavesState_86 : decode cX6_leavesState 86 = .ok (.getfield 13, 3) := by decide +kernel
theorem dX6_leavesState_89 : decode cX6_leavesState 89 = .ok (.iload_n 2, 1) := by decide +kernel
theorem dX6_leavesState_90 : decode cX6_leavesState 90 = .ok (.iaload, 1) := by decide +kernel
theorem dX6_leavesState_91 : decode cX6_leavesState 91 = .ok (.iastore, 1) := by decide +kernel
theorem dX6_leavesState_92 : decode cX6_leavesState 92 = .ok (.iinc 2 1, 3) := by decide +kernel
theorem dX6_leavesState_95 : decode cX6_leavesState 95 = .ok (.goto (-25), 3) := by decide +kernel
theorem dX6_leavesState_98 : decode cX6_leavesState 98 = .ok (.iconst 0, 1) := by decide +kernel
theorem dX6_leavesState_99 : decode cX6_leavesState 99 = .ok (.istore_n 2, 1) := by decide +kernel
theorem dX6_leavesState_100 : decode cX6_leavesState 100 = .ok (.iload_n 2, 1) := by decide +kernel
theorem dX6_leavesState_101 : decode cX6_leavesState 101 = .ok (.sipush 200, 3) := by decide +kernel
theorem dX6_leavesState_104 : decode cX6_leavesState 104 = .ok (.if_icmp .ge 26, 3) := by decide +kernel
theorem dX6_leavesState_107 : decode cX6_leavesState 107 = .ok (.aload_n 0, 1) := by decide +kernel
theorem dX6_leavesState_108 : decode cX6_leavesState 108 = .ok (.getfield 19, 3) := by decide +kernel
theorem dX6_leavesState_111 : decode cX6_leavesState 111 = .ok (.iload_n 1, 1) := by decide +kernel
theorem dX6_leavesState_112 : decode cX6_leavesState 112 = .ok (.bipush 7, 2) := by decide +kernel
theorem dX6_leavesState_114 : decode cX6_leavesState 114 = .ok (.iadd, 1) := by decide +kernel
theorem dX6_leavesState_115 : decode cX6_leavesState 115 = .ok (.iload_n 2, 1) := by decide +kernel
theorem dX6_leavesState_116 : decode cX6_leavesState 116 = .ok (.iadd, 1) := by decide +kernel
theorem dX6_leavesState_117 : decode cX6_leavesState 117 = .ok (.aload_n 0, 1) := by decide +kernel
theorem dX6_leavesState_118 : decode cX6_leavesState 118 = .ok (.getfield 16, 3) := by decide +kernel
theorem dX6_leavesState_121 : decode cX6_leavesState 121 = .ok (.iload_n 2, 1) := by decide +kernel
theorem dX6_leavesState_122 : decode cX6_leavesState 122 = .ok (.iaload, 1) := by decide +kernel
theorem dX6_leavesState_123 : decode cX6_leavesState 123 = .ok (.iastore, 1) := by decide +kernel
theorem dX6_leavesState_124 : decode cX6_leavesState 124 = .ok (.iinc 2 1, 3) := by decide +kernel
theorem dX6_leavesState_127 : decode cX6_leavesState 127 = .ok (.goto (-27), 3) := by decide +kernel
theorem dX6_leavesState_130 : decode cX6_leavesState 130 = .ok (.aload_n 0, 1) := by decide +kernel
theorem dX6_leavesState_131 : decode cX6_leavesState 131 = .ok (.dup, 1) := by decide +kernel
theorem dX6_leavesState_132 : decode cX6_leavesState 132 = .ok (.getfield 52, 3) := by decide +kernel
theorem dX6_leavesState_135 : decode cX6_leavesState 135 = .ok (.iconst 1, 1) := by decide +kernel
theorem dX6_leavesState_136 : decode cX6_leavesState 136 = .ok (.iadd, 1) := by decide +kernel
theorem dX6_leavesState_137 : decode cX6_leavesState 137 = .ok (.putfield 52, 3) := by decide +kernel
theorem dX6_leavesState_140 : decode cX6_leavesState 140 = .ok (.return_, 1) := by decide +kernel
theorem dX6_back_0 : decode cX6_back 0 = .ok (.aload_n 0, 1) := by decide +kernel
theorem dX6_back_1 : decode cX6_back 1 = .ok (.getfield 52, 3) := by decide +kernel
theorem dX6_back_4 : decode cX6_back 4 = .ok (.ifCond .ne 16, 3) := by decide +kernel
theorem dX6_back_7 : decode cX6_back 7 = .ok (.aload_n 0, 1) := by decide +kernel
theorem dX6_back_8 : decode cX6_back 8 = .ok (.getfield 1, 3) := by decide +kernel
theorem dX6_back_11 : decode cX6_back 11 = .ok (.iconst 1, 1) := by decide +kernel
theorem dX6_back_12 : decode cX6_back 12 = .ok (.dup2, 1) := by decide +kernel
theorem dX6_back_13 : decode cX6_back 13 = .ok (.iaload, 1) := by decide +kernel
theorem dX6_back_14 : decode cX6_back 14 = .ok (.iconst 1, 1) := by decide +kernel
theorem dX6_back_15 : decode cX6_back 15 = .ok (.iadd, 1) := by decide +kernel
theorem dX6_back_16 : decode cX6_back 16 = .ok (.iastore, 1) := by decide +kernel
theorem dX6_back_17 : decode cX6_back 17 = .ok (.bipush (-3), 2) := by decide +kernel
theorem dX6_back_19 : decode cX6_back 19 = .ok (.ireturn, 1) := by decide +kernel
theorem dX6_back_20 : decode cX6_back 20 = .ok (.aload_n 0, 1) := by decide +kernel
theorem dX6_back_21 : decode cX6_back 21 = .ok (.dup, 1) := by decide +kernel
theorem dX6_back_22 : decode cX6_back 22 = .ok (.getfield 52, 3) := by decide +kernel
theorem dX6_back_25 : decode cX6_back 25 = .ok (.iconst 1, 1) := by decide +kernel
theorem dX6_back_26 : decode cX6_back 26 = .ok (.isub, 1) := by decide +kernel
theorem dX6_back_27 : decode cX6_back 27 = .ok (.putfield 52, 3) := by decide +kernel
theorem dX6_back_30 : decode cX6_back 30 = .ok (.sipush 207, 3) := by decide +kernel
theorem dX6_back_33 : decode cX6_back 33 = .ok (.aload_n 0, 1) := by decide +kernel
theorem dX6_back_34 : decode cX6_back 34 = .ok (.getfield 52, 3) := by decide +kernel
theorem dX6_back_37 : decode cX6_back 37 = .ok (.imul, 1) := by decide +kernel
theorem dX6_back_38 : decode cX6_back 38 = .ok (.istore_n 1, 1) := by decide +kernel
theorem dX6_back_39 : decode cX6_back 39 = .ok (.aload_n 0, 1) := by decide +kernel
theorem dX6_back_40 : decode cX6_back 40 = .ok (.aload_n 0, 1) := by decide +kernel
theorem dX6_back_41 : decode cX6_back 41 = .ok (.getfield 19, 3) := by decide +kernel
theorem dX6_back_44 : decode cX6_back 44 = .ok (.iload_n 1, 1) := by decide +kernel
theorem dX6_back_45 : decode cX6_back 45 = .ok (.iaload, 1) := by decide +kernel
theorem dX6_back_46 : decode cX6_back 46 = .ok (.putfield 48, 3) := by decide +kernel
theorem dX6_back_49 : decode cX6_back 49 = .ok (.iconst 0, 1) := by decide +kernel
theorem dX6_back_50 : decode cX6_back 50 = .ok (.istore_n 2, 1) := by decide +kernel
theorem dX6_back_51 : decode cX6_back 51 = .ok (.iload_n 2, 1) := by decide +kernel
theorem dX6_back_52 : decode cX6_back 52 = .ok (.bipush 6, 2) := by decide +kernel
theorem dX6_back_54 : decode cX6_back 54 = .ok (.if_icmp .ge 25, 3) := by decide +kernel
theorem dX6_back_57 : decode cX6_back 57 = .ok (.aload_n 0, 1) := by decide +kernel
theorem dX6_back_58 : decode cX6_back 58 = .ok (.getfield 13, 3) := by decide +kernel
theorem dX6_back_61 : decode cX6_back 61 = .ok (.iload_n 2, 1) := by decide +kernel
theorem dX6_back_62 : decode cX6_back 62 = .ok (.aload_n 0, 1) := by decide +kernel
theorem dX6_back_63 : decode cX6_back 63 = .ok (.getfield 19, 3) := by decide +kernel
theorem dX6_back_66 : decode cX6_back 66 = .ok (.iload_n 1, 1) := by decide +kernel
theorem dX6_back_67 : decode cX6_back 67 = .ok (.iconst 1, 1) := by decide +kernel
theorem dX6_back_68 : decode cX6_back 68 = .ok (.iadd, 1) := by decide +kernel
theorem dX6_back_69 : decode cX6_back 69 = .ok (.iload_n 2, 1) := by decide +kernel
theorem dX6_back_70 : decode cX6_back 70 = .ok (.iadd, 1) := by decide +kernel
theorem dX6_back_71 : decode cX6_back 71 = .ok (.iaload, 1) := by decide +kernel
theorem dX6_back_72 : decode cX6_back 72 = .ok (.iastore, 1) := by decide +kernel
theorem dX6_back_73 : decode cX6_back 73 = .ok (.iinc 2 1, 3) := by decide +kernel
theorem dX6_back_76 : decode cX6_back 76 = .ok (.goto (-25), 3) := by decide +kernel
theorem dX6_back_79 : decode cX6_back 79 = .ok (.iconst 0, 1) := by decide +kernel
theorem dX6_back_80 : decode cX6_back 80 = .ok (.istore_n 2, 1) := by decide +kernel
theorem dX6_back_81 : decode cX6_back 81 = .ok (.iload_n 2, 1) := by decide +kernel
theorem dX6_back_82 : decode cX6_back 82 = .ok (.sipush 200, 3) := by decide +kernel
theorem dX6_back_85 : decode cX6_back 85 = .ok (.if_icmp .ge 26, 3) := by decide +kernel
theorem dX6_back_88 : decode cX6_back 88 = .ok (.aload_n 0, 1) := by decide +kernel
theorem dX6_back_89 : decode cX6_back 89 = .ok (.getfield 16, 3) := by decide +kernel
theorem dX6_back_92 : decode cX6_back 92 = .ok (.iload_n 2, 1) := by decide +kernel
theorem dX6_back_93 : decode cX6_back 93 = .ok (.aload_n 0, 1) := by decide +kernel
theorem dX6_back_94 : decode cX6_back 94 = .ok (.getfield 19, 3) := by decide +kernel
theorem dX6_back_97 : decode cX6_back 97 = .ok (.iload_n 1, 1) := by decide +kernel
theorem dX6_back_98 : decode cX6_back 98 = .ok (.bipush 7, 2) := by decide +kernel
theorem dX6_back_100 : decode cX6_back 100 = .ok (.iadd, 1) := by decide +kernel
theorem dX6_back_101 : decode cX6_back 101 = .ok (.iload_n 2, 1) := by decide +kernel
theorem dX6_back_102 : decode cX6_back 102 = .ok (.iadd, 1) := by decide +kernel
theorem dX6_back_103 : decode cX6_back 103 = .ok (.iaload, 1) := by decide +kernel
theorem dX6_back_104 : decode cX6_back 104 = .ok (.iastore, 1) := by decide +kernel
theorem dX6_back_105 : decode cX6_back 105 = .ok (.iinc 2 1, 3) := by decide +kernel
theorem dX6_back_108 : decode cX6_back 108 = .ok (.goto (-27), 3) := by decide +kernel
theorem dX6_back_111 : decode cX6_back 111 = .ok (.aload_n 0, 1) := by decide +kernel
theorem dX6_back_112 : decode cX6_back 112 = .ok (.getfield 52, 3) := by decide +kernel
theorem dX6_back_115 : decode cX6_back 115 = .ok (.ireturn, 1) := by decide +kernel
theorem dX6_comes_0 : decode cX6_comes 0 = .ok (.aload_n 0, 1) := by decide +kernel
theorem dX6_comes_1 : decode cX6_comes 1 = .ok (.getfield 16, 3) := by decide +kernel
theorem dX6_comes_4 : decode cX6_comes 4 = .ok (.iconst 4, 1) := by decide +kernel
theorem dX6_comes_5 : decode cX6_comes 5 = .ok (.aload_n 0, 1) := by decide +kernel
theorem dX6_comes_6 : decode cX6_comes 6 = .ok (.getfield 48, 3) := by decide +kernel
theorem dX6_comes_9 : decode cX6_comes 9 = .ok (.imul, 1) := by decide +kernel
theorem dX6_comes_10 : decode cX6_comes 10 = .ok (.iload_n 1, 1) := by decide +kernel
theorem dX6_comes_11 : decode cX6_comes 11 = .ok (.iastore, 1) := by decide +kernel
theorem dX6_comes_12 : decode cX6_comes 12 = .ok (.aload_n 0, 1) := by decide +kernel
theorem dX6_comes_13 : decode cX6_comes 13 = .ok (.getfield 16, 3) := by decide +kernel
theorem dX6_comes_16 : decode cX6_comes 16 = .ok (.iconst 4, 1) := by decide +kernel
theorem dX6_comes_17 : decode cX6_comes 17 = .ok (.aload_n 0, 1) := by decide +kernel
theorem dX6_comes_18 : decode cX6_comes 18 = .ok (.getfield 48, 3) := by decide +kernel
theorem dX6_comes_21 : decode cX6_comes 21 = .ok (.imul, 1) := by decide +kernel
theorem dX6_comes_22 : decode cX6_comes 22 = .ok (.iconst 1, 1) := by decide +kernel
theorem dX6_comes_23 : decode cX6_comes 23 = .ok (.iadd, 1) := by decide +kernel
theorem dX6_comes_24 : decode cX6_comes 24 = .ok (.iload_n 2, 1) := by decide +kernel
theorem dX6_comes_25 : decode cX6_comes 25 = .ok (.iastore, 1) := by decide +kernel
theorem dX6_comes_26 : decode cX6_comes 26 = .ok (.aload_n 0, 1) := by decide +kernel
theorem dX6_comes_27 : decode cX6_comes 27 = .ok (.getfield 16, 3) := by decide +kernel
theorem dX6_comes_30 : decode cX6_comes 30 = .ok (.iconst 4, 1) := by decide +kernel
theorem dX6_comes_31 : decode cX6_comes 31 = .ok (.aload_n 0, 1) := by decide +kernel
theorem dX6_comes_32 : decode cX6_comes 32 = .ok (.getfield 48, 3) := by decide +kernel
theorem dX6_comes_35 : decode cX6_comes 35 = .ok (.imul, 1) := by decide +kernel
theorem dX6_comes_36 : decode cX6_comes 36 = .ok (.iconst 2, 1) := by decide +kernel
theorem dX6_comes_37 : decode cX6_comes 37 = .ok (.iadd, 1) := by decide +kernel
theorem dX6_comes_38 : decode cX6_comes 38 = .ok (.iload_n 3, 1) := by decide +kernel
theorem dX6_comes_39 : decode cX6_comes 39 = .ok (.iastore, 1) := by decide +kernel
theorem dX6_comes_40 : decode cX6_comes 40 = .ok (.aload_n 0, 1) := by decide +kernel
theorem dX6_comes_41 : decode cX6_comes 41 = .ok (.getfield 16, 3) := by decide +kernel
theorem dX6_comes_44 : decode cX6_comes 44 = .ok (.iconst 4, 1) := by decide +kernel
theorem dX6_comes_45 : decode cX6_comes 45 = .ok (.aload_n 0, 1) := by decide +kernel
theorem dX6_comes_46 : decode cX6_comes 46 = .ok (.getfield 48, 3) := by decide +kernel
theorem dX6_comes_49 : decode cX6_comes 49 = .ok (.imul, 1) := by decide +kernel
theorem dX6_comes_50 : decode cX6_comes 50 = .ok (.iconst 3, 1) := by decide +kernel
theorem dX6_comes_51 : decode cX6_comes 51 = .ok (.iadd, 1) := by decide +kernel
theorem dX6_comes_52 : decode cX6_comes 52 = .ok (.iload 4, 2) := by decide +kernel
theorem dX6_comes_54 : decode cX6_comes 54 = .ok (.iastore, 1) := by decide +kernel
theorem dX6_comes_55 : decode cX6_comes 55 = .ok (.aload_n 0, 1) := by decide +kernel
theorem dX6_comes_56 : decode cX6_comes 56 = .ok (.dup, 1) := by decide +kernel
theorem dX6_comes_57 : decode cX6_comes 57 = .ok (.getfield 48, 3) := by decide +kernel
theorem dX6_comes_60 : decode cX6_comes 60 = .ok (.iconst 1, 1) := by decide +kernel
theorem dX6_comes_61 : decode cX6_comes 61 = .ok (.iadd, 1) := by decide +kernel
theorem dX6_comes_62 : decode cX6_comes 62 = .ok (.putfield 48, 3) := by decide +kernel
theorem dX6_comes_65 : decode cX6_comes 65 = .ok (.return_, 1) := by decide +kernel
set_option maxRecDepth 20000 in
theorem ggX6_day_X6_may : GoodIn wsX6_day wsX6_may := goodIn_r _ [5, 6, 7, 4, 8] (by decide +kernel) (by decide +kernel)
set_option maxRecDepth 20000 in
theorem gX6_day_X6_may : GoodIn wsX6_day (va_wsS RX6 55 yX6_may wsX6_may) := goodIn_app (goodIn_of _ (by decide +kernel)) ggX6_day_X6_may
set_option maxRecDepth 20000 in
theorem ggX6_day_X6_bad : GoodIn wsX6_day wsX6_bad := goodIn_r _ [12, 13, 30, 31, 32, 33, 34, 35, 36, 37, 38, 39, 40, 41, 42, 43, 44, 45, 46, 47, 48, 49, 50] (by decide +kernel) (by decide +kernel)
set_option maxRecDepth 20000 in
theorem gX6_day_X6_bad : GoodIn wsX6_day (wsV RX6 59 RX6 yX6_bad wsX6_bad) := goodIn_app (goodIn_of _ (by decide +kernel)) ggX6_day_X6_bad
set_option maxRecDepth 20000 in
theorem ggX6_day_X6_full : GoodIn wsX6_day wsX6_full := goodIn_r _ [17, 13, 30, 31, 32, 33, 34, 35, 36, 37, 38, 39, 40, 41, 42, 43, 44, 45, 46, 47, 48, 49, 50] (by decide +kernel) (by decide +kernel)
set_option maxRecDepth 20000 in
theorem gX6_day_X6_full : GoodIn wsX6_day (wsV RX6 63 RX6 yX6_full wsX6_full) := goodIn_app (goodIn_of _ (by decide +kernel)) ggX6_day_X6_full
set_option maxRecDepth 20000 in
theorem ggX6_day_X6_leavesState : GoodIn wsX6_day wsX6_leavesState := goodIn_r _ [21, 22, 23, 1, 24, 25, 30, 31, 32, 33, 34, 35, 36, 37, 38, 39, 40, 41, 42, 43, 44, 45, 46, 47, 48, 49, 50] (by decide +kernel) (by decide +kernel)
set_option maxRecDepth 20000 in
theorem gX6_day_X6_leavesState : GoodIn wsX6_day (wsV RX6 66 RX6 yX6_leavesState wsX6_leavesState) := goodIn_app (goodIn_of _ (by decide +kernel)) ggX6_day_X6_leavesState
set_option maxRecDepth 20000 in
theorem ggX6_day_X6_comes : GoodIn wsX6_day wsX6_comes := goodIn_r _ [29, 25, 1, 30, 31, 32, 33, 34, 35, 36, 37, 38, 39, 40, 41, 42, 43, 44, 45, 46, 47, 48, 49, 50] (by decide +kernel) (by decide +kernel)
set_option maxRecDepth 20000 in
theorem gX6_day_X6_comes : GoodIn wsX6_day (wsV RX6 69 RX6 yX6_comes wsX6_comes) := goodIn_app (goodIn_of _ (by decide +kernel)) ggX6_day_X6_comes
theorem dX6_day_0 : decode cX6_day 0 = .ok (.iload_n 1, 1) := by decide +kernel
theorem dX6_day_1 : decode cX6_day 1 = .ok (.invokestatic 55, 3) := by decide +kernel
theorem dX6_day_4 : decode cX6_day 4 = .ok (.ifCond .eq 25, 3) := by decide +kernel
theorem dX6_day_7 : decode cX6_day 7 = .ok (.iload_n 2, 1) := by decide +kernel
theorem dX6_day_8 : decode cX6_day 8 = .ok (.invokestatic 55, 3) := by decide +kernel
theorem dX6_day_11 : decode cX6_day 11 = .ok (.ifCond .eq 18, 3) := by decide +kernel
theorem dX6_day_14 : decode cX6_day 14 = .ok (.iload_n 3, 1) := by decide +kernel
theorem dX6_day_15 : decode cX6_day 15 = .ok (.invokestatic 55, 3) := by decide +kernel
theorem dX6_day_18 : decode cX6_day 18 = .ok (.ifCond .eq 11, 3) := by decide +kernel
theorem dX6_day_21 : decode cX6_day 21 = .ok (.iload 4, 2) := by decide +kernel
theorem dX6_day_23 : decode cX6_day 23 = .ok (.invokestatic 55, 3) := by decide +kernel
theorem dX6_day_26 : decode cX6_day 26 = .ok (.ifCond .ne 8, 3) := by decide +kernel
theorem dX6_day_29 : decode cX6_day 29 = .ok (.aload_n 0, 1) := by decide +kernel
theorem dX6_day_30 : decode cX6_day 30 = .ok (.invokevirtual 59, 3) := by decide +kernel
theorem dX6_day_33 : decode cX6_day 33 = .ok (.ireturn, 1) := by decide +kernel
theorem dX6_day_34 : decode cX6_day 34 = .ok (.aload_n 0, 1) := by decide +kernel
theorem dX6_day_35 : decode cX6_day 35 = .ok (.getfield 48, 3) := by decide +kernel
theorem dX6_day_38 : decode cX6_day 38 = .ok (.bipush 50, 2) := by decide +kernel
theorem dX6_day_40 : decode cX6_day 40 = .ok (.if_icmp .ne 8, 3) := by decide +kernel
theorem dX6_day_43 : decode cX6_day 43 = .ok (.aload_n 0, 1) := by decide +kernel
theorem dX6_day_44 : decode cX6_day 44 = .ok (.invokevirtual 63, 3) := by decide +kernel
theorem dX6_day_47 : decode cX6_day 47 = .ok (.ireturn, 1) := by decide +kernel
theorem dX6_day_48 : decode cX6_day 48 = .ok (.aload_n 0, 1) := by decide +kernel
theorem dX6_day_49 : decode cX6_day 49 = .ok (.invokevirtual 66, 3) := by decide +kernel
theorem dX6_day_52 : decode cX6_day 52 = .ok (.aload_n 0, 1) := by decide +kernel
theorem dX6_day_53 : decode cX6_day 53 = .ok (.iload_n 1, 1) := by decide +kernel
theorem dX6_day_54 : decode cX6_day 54 = .ok (.iload_n 2, 1) := by decide +kernel
theorem dX6_day_55 : decode cX6_day 55 = .ok (.iload_n 3, 1) := by decide +kernel
theorem dX6_day_56 : decode cX6_day 56 = .ok (.iload 4, 2) := by decide +kernel
theorem dX6_day_58 : decode cX6_day 58 = .ok (.invokevirtual 69, 3) := by decide +kernel
theorem dX6_day_61 : decode cX6_day 61 = .ok (.aload_n 0, 1) := by decide +kernel
theorem dX6_day_62 : decode cX6_day 62 = .ok (.getfield 48, 3) := by decide +kernel
theorem dX6_day_65 : decode cX6_day 65 = .ok (.iconst 1, 1) := by decide +kernel
theorem dX6_day_66 : decode cX6_day 66 = .ok (.isub, 1) := by decide +kernel
theorem dX6_day_67 : decode cX6_day 67 = .ok (.ireturn, 1) := by decide +kernel
set_option maxRecDepth 20000 in
theorem ggX6_sets_X6_isDay : GoodIn wsX6_sets wsX6_isDay := goodIn_r _ [6, 7, 8, 9, 5, 10, 29, 30, 31, 32, 33, 34, 35, 36, 37, 38, 39, 40, 41, 42, 43, 44, 45, 46, 47, 48, 49] (by decide +kernel) (by decide +kernel)
set_option maxRecDepth 20000 in
theorem gX6_sets_X6_isDay : GoodIn wsX6_sets (wsV RX6 73 RX6 yX6_isDay wsX6_isDay) := goodIn_app (goodIn_of _ (by decide +kernel)) ggX6_sets_X6_isDay
set_option maxRecDepth 20000 in
theorem ggX6_sets_X6_isMember : GoodIn wsX6_sets wsX6_isMember := goodIn_r _ [13, 8, 9, 5, 10] (by decide +kernel) (by decide +kernel)
set_option maxRecDepth 20000 in
theorem gX6_sets_X6_isMember : GoodIn wsX6_sets (va_wsS RX6 76 yX6_isMember wsX6_isMember) := goodIn_app (goodIn_of _ (by decide +kernel)) ggX6_sets_X6_isMember
set_option maxRecDepth 20000 in
theorem ggX6_sets_X6_may : GoodIn wsX6_sets wsX6_may := goodIn_r _ [16, 8, 9, 5, 10] (by decide +kernel) (by decide +kernel)
set_option maxRecDepth 20000 in
theorem gX6_sets_X6_may : GoodIn wsX6_sets (va_wsS RX6 55 yX6_may wsX6_may) := goodIn_app (goodIn_of _ (by decide +kernel)) ggX6_sets_X6_may
set_option maxRecDepth 20000 in
theorem ggX6_sets_X6_badly : GoodIn wsX6_sets wsX6_badly := goodIn_r _ [20, 21, 29, 30, 31, 32, 33, 34, 35, 36, 37, 38, 39, 40, 41, 42, 43, 44, 45, 46, 47, 48, 49] (by decide +kernel) (by decide +kernel)
set_option maxRecDepth 20000 in
theorem gX6_sets_X6_badly : GoodIn wsX6_sets (wsV RX6 79 RX6 yX6_badly wsX6_badly) := goodIn_app (goodIn_of _ (by decide +kernel)) ggX6_sets_X6_badly
set_option maxRecDepth 20000 in
theorem ggX6_sets_X6_leavesState : GoodIn wsX6_sets wsX6_leavesState := goodIn_r _ [25, 26, 27, 7, 28, 1, 29, 30, 31, 32, 33, 34, 35, 36, 37, 38, 39, 40, 41, 42, 43, 44, 45, 46, 47, 48, 49] (by decide +kernel) (by decide +kernel)
set_option maxRecDepth 20000 in
theorem gX6_sets_X6_leavesState : GoodIn wsX6_sets (wsV RX6 66 RX6 yX6_leavesState wsX6_leavesState) := goodIn_app (goodIn_of _ (by decide +kernel)) ggX6_sets_X6_leavesState
theorem dX6_sets_0 : decode cX6_sets 0 = .ok (.aload_n 0, 1) := by decide +kernel
theorem dX6_sets_1 : decode cX6_sets 1 = .ok (.iload_n 1, 1) := by decide +kernel
theorem dX6_sets_2 : decode cX6_sets 2 = .ok (.invokevirtual 73, 3) := by decide +kernel
theorem dX6_sets_5 : decode cX6_sets 5 = .ok (.ifCond .eq 17, 3) := by decide +kernel
theorem dX6_sets_8 : decode cX6_sets 8 = .ok (.iload_n 2, 1) := by decide +kernel
theorem dX6_sets_9 : decode cX6_sets 9 = .ok (.invokestatic 76, 3) := by decide +kernel
theorem dX6_sets_12 : decode cX6_sets 12 = .ok (.ifCond .eq 10, 3) := by decide +kernel
theorem dX6_sets_15 : decode cX6_sets 15 = .ok (.iload_n 3, 1) := by decide +kernel
theorem dX6_sets_16 : decode cX6_sets 16 = .ok (.invokestatic 55, 3) := by decide +kernel
theorem dX6_sets_19 : decode cX6_sets 19 = .ok (.ifCond .ne 8, 3) := by decide +kernel
theorem dX6_sets_22 : decode cX6_sets 22 = .ok (.aload_n 0, 1) := by decide +kernel
theorem dX6_sets_23 : decode cX6_sets 23 = .ok (.invokevirtual 79, 3) := by decide +kernel
theorem dX6_sets_26 : decode cX6_sets 26 = .ok (.ireturn, 1) := by decide +kernel
theorem dX6_sets_27 : decode cX6_sets 27 = .ok (.aload_n 0, 1) := by decide +kernel
theorem dX6_sets_28 : decode cX6_sets 28 = .ok (.invokevirtual 66, 3) := by decide +kernel
theorem dX6_sets_31 : decode cX6_sets 31 = .ok (.aload_n 0, 1) := by decide +kernel
theorem dX6_sets_32 : decode cX6_sets 32 = .ok (.getfield 16, 3) := by decide +kernel
theorem dX6_sets_35 : decode cX6_sets 35 = .ok (.iconst 4, 1) := by decide +kernel
theorem dX6_sets_36 : decode cX6_sets 36 = .ok (.iload_n 1, 1) := by decide +kernel
theorem dX6_sets_37 : decode cX6_sets 37 = .ok (.imul, 1) := by decide +kernel
theorem dX6_sets_38 : decode cX6_sets 38 = .ok (.iload_n 2, 1) := by decide +kernel
theorem dX6_sets_39 : decode cX6_sets 39 = .ok (.iadd, 1) := by decide +kernel
theorem dX6_sets_40 : decode cX6_sets 40 = .ok (.iaload, 1) := by decide +kernel
theorem dX6_sets_41 : decode cX6_sets 41 = .ok (.istore 4, 2) := by decide +kernel
theorem dX6_sets_43 : decode cX6_sets 43 = .ok (.aload_n 0, 1) := by decide +kernel
theorem dX6_sets_44 : decode cX6_sets 44 = .ok (.getfield 16, 3) := by decide +kernel
theorem dX6_sets_47 : decode cX6_sets 47 = .ok (.iconst 4, 1) := by decide +kernel
theorem dX6_sets_48 : decode cX6_sets 48 = .ok (.iload_n 1, 1) := by decide +kernel
theorem dX6_sets_49 : decode cX6_sets 49 = .ok (.imul, 1) := by decide +kernel
theorem dX6_sets_50 : decode cX6_sets 50 = .ok (.iload_n 2, 1) := by decide +kernel
theorem dX6_sets_51 : decode cX6_sets 51 = .ok (.iadd, 1) := by decide +kernel
theorem dX6_sets_52 : decode cX6_sets 52 = .ok (.iload_n 3, 1) := by decide +kernel
theorem dX6_sets_53 : decode cX6_sets 53 = .ok (.iastore, 1) := by decide +kernel
theorem dX6_sets_54 : decode cX6_sets 54 = .ok (.iload 4, 2) := by decide +kernel
theorem dX6_sets_56 : decode cX6_sets 56 = .ok (.ireturn, 1) := by decide +kernel
set_option maxRecDepth 20000 in
theorem ggX6_draw_X6_in : GoodIn wsX6_draw wsX6_in := goodIn_r _ [14] (by decide +kernel) (by decide +kernel)
set_option maxRecDepth 20000 in
theorem gX6_draw_X6_in : GoodIn wsX6_draw (va_wsS RX6 44 yX6_in wsX6_in) := goodIn_app (goodIn_of _ (by decide +kernel)) ggX6_draw_X6_in
set_option maxRecDepth 20000 in
theorem ggX6_draw_X6_bad : GoodIn wsX6_draw wsX6_bad := goodIn_r _ [18, 19, 31, 32, 33, 34, 35, 36, 37, 38, 39, 40, 41, 42, 43, 44, 45, 46, 47, 48, 49, 50, 51] (by decide +kernel) (by decide +kernel)
set_option maxRecDepth 20000 in
theorem gX6_draw_X6_bad : GoodIn wsX6_draw (wsV RX6 59 RX6 yX6_bad wsX6_bad) := goodIn_app (goodIn_of _ (by decide +kernel)) ggX6_draw_X6_bad
set_option maxRecDepth 20000 in
theorem ggX6_draw_X6_leavesState : GoodIn wsX6_draw wsX6_leavesState := goodIn_r _ [23, 24, 25, 2, 26, 8, 31, 32, 33, 34, 35, 36, 37, 38, 39, 40, 41, 42, 43, 44, 45, 46, 47, 48, 49, 50, 51] (by decide +kernel) (by decide +kernel)
set_option maxRecDepth 20000 in
theorem gX6_draw_X6_leavesState : GoodIn wsX6_draw (wsV RX6 66 RX6 yX6_leavesState wsX6_leavesState) := goodIn_app (goodIn_of _ (by decide +kernel)) ggX6_draw_X6_leavesState
set_option maxRecDepth 20000 in
theorem ggX6_draw_X6_before : GoodIn wsX6_draw wsX6_before := goodIn_r _ [30, 8, 31, 32, 33, 34, 35, 36, 37, 38, 39, 40, 41, 42, 43, 44, 45, 46, 47, 48, 49, 50, 51] (by decide +kernel) (by decide +kernel)
set_option maxRecDepth 20000 in
theorem gX6_draw_X6_before : GoodIn wsX6_draw (wsV RX6 93 RX6 yX6_before wsX6_before) := goodIn_app (goodIn_of _ (by decide +kernel)) ggX6_draw_X6_before
theorem dX6_draw_0 : decode cX6_draw 0 = .ok (.iload_n 1, 1) := by decide +kernel
theorem dX6_draw_1 : decode cX6_draw 1 = .ok (.iconst 0, 1) := by decide +kernel
theorem dX6_draw_2 : decode cX6_draw 2 = .ok (.ldc 82, 2) := by decide +kernel
theorem dX6_draw_4 : decode cX6_draw 4 = .ok (.invokestatic 44, 3) := by decide +kernel
theorem dX6_draw_7 : decode cX6_draw 7 = .ok (.ifCond .eq 13, 3) := by decide +kernel
theorem dX6_draw_10 : decode cX6_draw 10 = .ok (.iload_n 2, 1) := by decide +kernel
theorem dX6_draw_11 : decode cX6_draw 11 = .ok (.iconst 1, 1) := by decide +kernel
theorem dX6_draw_12 : decode cX6_draw 12 = .ok (.bipush 50, 2) := by decide +kernel
theorem dX6_draw_14 : decode cX6_draw 14 = .ok (.invokestatic 44, 3) := by decide +kernel
theorem dX6_draw_17 : decode cX6_draw 17 = .ok (.ifCond .ne 8, 3) := by decide +kernel
theorem dX6_draw_20 : decode cX6_draw 20 = .ok (.aload_n 0, 1) := by decide +kernel
theorem dX6_draw_21 : decode cX6_draw 21 = .ok (.invokevirtual 59, 3) := by decide +kernel
theorem dX6_draw_24 : decode cX6_draw 24 = .ok (.ireturn, 1) := by decide +kernel
theorem dX6_draw_25 : decode cX6_draw 25 = .ok (.aload_n 0, 1) := by decide +kernel
theorem dX6_draw_26 : decode cX6_draw 26 = .ok (.invokevirtual 66, 3) := by decide +kernel
theorem dX6_draw_29 : decode cX6_draw 29 = .ok (.aload_n 0, 1) := by decide +kernel
theorem dX6_draw_30 : decode cX6_draw 30 = .ok (.iload_n 2, 1) := by decide +kernel
theorem dX6_draw_31 : decode cX6_draw 31 = .ok (.putfield 48, 3) := by decide +kernel
theorem dX6_draw_34 : decode cX6_draw 34 = .ok (.iload_n 1, 1) := by decide +kernel
theorem dX6_draw_35 : decode cX6_draw 35 = .ok (.i2l, 1) := by decide +kernel
theorem dX6_draw_36 : decode cX6_draw 36 = .ok (.lstore_n 3, 1) := by decide +kernel
theorem dX6_draw_37 : decode cX6_draw 37 = .ok (.iconst 0, 1) := by decide +kernel
theorem dX6_draw_38 : decode cX6_draw 38 = .ok (.istore 5, 2) := by decide +kernel
theorem dX6_draw_40 : decode cX6_draw 40 = .ok (.iconst 0, 1) := by decide +kernel
theorem dX6_draw_41 : decode cX6_draw 41 = .ok (.istore 6, 2) := by decide +kernel
theorem dX6_draw_43 : decode cX6_draw 43 = .ok (.iload 6, 2) := by decide +kernel
theorem dX6_draw_45 : decode cX6_draw 45 = .ok (.iconst 4, 1) := by decide +kernel
theorem dX6_draw_46 : decode cX6_draw 46 = .ok (.iload_n 2, 1) := by decide +kernel
theorem dX6_draw_47 : decode cX6_draw 47 = .ok (.imul, 1) := by decide +kernel
theorem dX6_draw_48 : decode cX6_draw 48 = .ok (.if_icmp .ge 112, 3) := by decide +kernel
theorem dX6_draw_51 : decode cX6_draw 51 = .ok (.lload_n 3, 1) := by decide +kernel
theorem dX6_draw_52 : decode cX6_draw 52 = .ok (.ldc2_w 83, 3) := by decide +kernel
theorem dX6_draw_55 : decode cX6_draw 55 = .ok (.lmul, 1) := by decide +kernel
theorem dX6_draw_56 : decode cX6_draw 56 = .ok (.ldc2_w 85, 3) := by decide +kernel
theorem dX6_draw_59 : decode cX6_draw 59 = .ok (.ladd, 1) := by decide +kernel
theorem dX6_draw_60 : decode cX6_draw 60 = .ok (.ldc2_w 87, 3) := by decide +kernel
theorem dX6_draw_63 : decode cX6_draw 63 = .ok (.lrem, 1) := by decide +kernel
theorem dX6_draw_64 : decode cX6_draw 64 = .ok (.lstore_n 3, 1) := by decide +kernel
theorem dX6_draw_65 : decode cX6_draw 65 = .ok (.lload_n 3, 1) := by decide +kernel
theorem dX6_draw_66 : decode cX6_draw 66 = .ok (.ldc2_w 89, 3) := by decide +kernel
theorem dX6_draw_69 : decode cX6_draw 69 = .ok (.ldiv, 1) := by decide +kernel
theorem dX6_draw_70 : decode cX6_draw 70 = .ok (.ldc2_w 91, 3) := by decide +kernel
theorem dX6_draw_73 : decode cX6_draw 73 = .ok (.lrem, 1) := by decide +kernel
theorem dX6_draw_74 : decode cX6_draw 74 = .ok (.lconst 0, 1) := by decide +kernel
theorem dX6_draw_75 : decode cX6_draw 75 = .ok (.lcmp, 1) := by decide +kernel
theorem dX6_draw_76 : decode cX6_draw 76 = .ok (.ifCond .ne 19, 3) := by decide +kernel
theorem dX6_draw_79 : decode cX6_draw 79 = .ok (.aload_n 0, 1) := by decide +kernel
theorem dX6_draw_80 : decode cX6_draw 80 = .ok (.getfield 16, 3) := by decide +kernel
theorem dX6_draw_83 : decode cX6_draw 83 = .ok (.iload 6, 2) := by decide +kernel
theorem dX6_draw_85 : decode cX6_draw 85 = .ok (.sipush (-10000), 3) := by decide +kernel
theorem dX6_draw_88 : decode cX6_draw 88 = .ok (.iastore, 1) := by decide +kernel
theorem dX6_draw_89 : decode cX6_draw 89 = .ok (.iinc 5 1, 3) := by decide +kernel
theorem dX6_draw_92 : decode cX6_draw 92 = .ok (.goto 62, 3) := by decide +kernel
theorem dX6_draw_95 : decode cX6_draw 95 = .ok (.aload_n 0, 1) := by decide +kernel
theorem dX6_draw_96 : decode cX6_draw 96 = .ok (.iload 6, 2) := by decide +kernel
theorem dX6_draw_98 : decode cX6_draw 98 = .ok (.invokevirtual 93, 3) := by decide +kernel
theorem dX6_draw_101 : decode cX6_draw 101 = .ok (.lload_n 3, 1) := by decide +kernel
theorem dX6_draw_102 : decode cX6_draw 102 = .ok (.ldc2_w 97, 3) := by decide +kernel
theorem dX6_draw_105 : decode cX6_draw 105 = .ok (.ldiv, 1) := by decide +kernel
theorem dX6_draw_106 : decode cX6_draw 106 = .ok (.ldc2_w 99, 3) := by decide +kernel
theorem dX6_draw_109 : decode cX6_draw 109 = .ok (.lrem, 1) := by decide +kernel
theorem dX6_draw_110 : decode cX6_draw 110 = .ok (.l2i, 1) := by decide +kernel
theorem dX6_draw_111 : decode cX6_draw 111 = .ok (.iadd, 1) := by decide +kernel
theorem dX6_draw_112 : decode cX6_draw 112 = .ok (.bipush 20, 2) := by decide +kernel
theorem dX6_draw_114 : decode cX6_draw 114 = .ok (.isub, 1) := by decide +kernel
theorem dX6_draw_115 : decode cX6_draw 115 = .ok (.istore 7, 2) := by decide +kernel
theorem dX6_draw_117 : decode cX6_draw 117 = .ok (.aload_n 0, 1) := by decide +kernel
theorem dX6_draw_118 : decode cX6_draw 118 = .ok (.getfield 16, 3) := by decide +kernel
theorem dX6_draw_121 : decode cX6_draw 121 = .ok (.iload 6, 2) := by decide +kernel
theorem dX6_draw_123 : decode cX6_draw 123 = .ok (.iload 7, 2) := by decide +kernel
theorem dX6_draw_125 : decode cX6_draw 125 = .ok (.sipush 999, 3) := by decide +kernel
theorem dX6_draw_128 : decode cX6_draw 128 = .ok (.if_icmp .le 9, 3) := by decide +kernel
theorem dX6_draw_131 : decode cX6_draw 131 = .ok (.sipush 999, 3) := by decide +kernel
theorem dX6_draw_134 : decode cX6_draw 134 = .ok (.goto 19, 3) := by decide +kernel
theorem dX6_draw_137 : decode cX6_draw 137 = .ok (.iload 7, 2) := by decide +kernel
theorem dX6_draw_139 : decode cX6_draw 139 = .ok (.sipush (-999), 3) := by decide +kernel
theorem dX6_draw_142 : decode cX6_draw 142 = .ok (.if_icmp .ge 9, 3) := by decide +kernel
theorem dX6_draw_145 : decode cX6_draw 145 = .ok (.sipush (-999), 3) := by decide +kernel
theorem dX6_draw_148 : decode cX6_draw 148 = .ok (.goto 5, 3) := by decide +kernel
theorem dX6_draw_151 : decode cX6_draw 151 = .ok (.iload 7, 2) := by decide +kernel
theorem dX6_draw_153 : decode cX6_draw 153 = .ok (.iastore, 1) := by decide +kernel
theorem dX6_draw_154 : decode cX6_draw 154 = .ok (.iinc 6 1, 3) := by decide +kernel
theorem dX6_draw_157 : decode cX6_draw 157 = .ok (.goto (-114), 3) := by decide +kernel
theorem dX6_draw_160 : decode cX6_draw 160 = .ok (.iload 5, 2) := by decide +kernel
theorem dX6_draw_162 : decode cX6_draw 162 = .ok (.ireturn, 1) := by decide +kernel
theorem dX6_before_0 : decode cX6_before 0 = .ok (.iload_n 1, 1) := by decide +kernel
theorem dX6_before_1 : decode cX6_before 1 = .ok (.iconst 4, 1) := by decide +kernel
theorem dX6_before_2 : decode cX6_before 2 = .ok (.isub, 1) := by decide +kernel
theorem dX6_before_3 : decode cX6_before 3 = .ok (.istore_n 2, 1) := by decide +kernel
theorem dX6_before_4 : decode cX6_before 4 = .ok (.iload_n 2, 1) := by decide +kernel
theorem dX6_before_5 : decode cX6_before 5 = .ok (.ifCond .lt 21, 3) := by decide +kernel
theorem dX6_before_8 : decode cX6_before 8 = .ok (.aload_n 0, 1) := by decide +kernel
theorem dX6_before_9 : decode cX6_before 9 = .ok (.getfield 16, 3) := by decide +kernel
theorem dX6_before_12 : decode cX6_before 12 = .ok (.iload_n 2, 1) := by decide +kernel
theorem dX6_before_13 : decode cX6_before 13 = .ok (.iaload, 1) := by decide +kernel
theorem dX6_before_14 : decode cX6_before 14 = .ok (.sipush (-10000), 3) := by decide +kernel
theorem dX6_before_17 : decode cX6_before 17 = .ok (.if_icmp .ne 9, 3) := by decide +kernel
theorem dX6_before_20 : decode cX6_before 20 = .ok (.iinc 2 (-4), 3) := by decide +kernel
theorem dX6_before_23 : decode cX6_before 23 = .ok (.goto (-19), 3) := by decide +kernel
theorem dX6_before_26 : decode cX6_before 26 = .ok (.iload_n 2, 1) := by decide +kernel
theorem dX6_before_27 : decode cX6_before 27 = .ok (.ifCond .ge 7, 3) := by decide +kernel
theorem dX6_before_30 : decode cX6_before 30 = .ok (.iconst 0, 1) := by decide +kernel
theorem dX6_before_31 : decode cX6_before 31 = .ok (.goto 9, 3) := by decide +kernel
theorem dX6_before_34 : decode cX6_before 34 = .ok (.aload_n 0, 1) := by decide +kernel
theorem dX6_before_35 : decode cX6_before 35 = .ok (.getfield 16, 3) := by decide +kernel
theorem dX6_before_38 : decode cX6_before 38 = .ok (.iload_n 2, 1) := by decide +kernel
theorem dX6_before_39 : decode cX6_before 39 = .ok (.iaload, 1) := by decide +kernel
theorem dX6_before_40 : decode cX6_before 40 = .ok (.ireturn, 1) := by decide +kernel
set_option maxRecDepth 20000 in
theorem ggX6_empties_X6_leavesState : GoodIn wsX6_empties wsX6_leavesState := goodIn_r _ [6, 7, 8, 1, 9, 10, 11, 12, 13, 14, 15, 16, 17, 18, 19, 20, 21, 22, 23, 24, 25, 26, 27, 28, 29, 30, 31] (by decide +kernel) (by decide +kernel)
set_option maxRecDepth 20000 in
theorem gX6_empties_X6_leavesState : GoodIn wsX6_empties (wsV RX6 66 RX6 yX6_leavesState wsX6_leavesState) := goodIn_app (goodIn_of _ (by decide +kernel)) ggX6_empties_X6_leavesState
theorem dX6_empties_0 : decode cX6_empties 0 = .ok (.aload_n 0, 1) := by decide +kernel
theorem dX6_empties_1 : decode cX6_empties 1 = .ok (.invokevirtual 66, 3) := by decide +kernel
theorem dX6_empties_4 : decode cX6_empties 4 = .ok (.aload_n 0, 1) := by decide +kernel
theorem dX6_empties_5 : decode cX6_empties 5 = .ok (.getfield 48, 3) := by decide +kernel
theorem dX6_empties_8 : decode cX6_empties 8 = .ok (.istore_n 1, 1) := by decide +kernel
theorem dX6_empties_9 : decode cX6_empties 9 = .ok (.aload_n 0, 1) := by decide +kernel
theorem dX6_empties_10 : decode cX6_empties 10 = .ok (.iconst 0, 1) := by decide +kernel
theorem dX6_empties_11 : decode cX6_empties 11 = .ok (.putfield 48, 3) := by decide +kernel
theorem dX6_empties_14 : decode cX6_empties 14 = .ok (.iload_n 1, 1) := by decide +kernel
theorem dX6_empties_15 : decode cX6_empties 15 = .ok (.ireturn, 1) := by decide +kernel
set_option maxRecDepth 20000 in
theorem ggX6_rules_X6_in : GoodIn wsX6_rules wsX6_in := goodIn_r _ [5] (by decide +kernel) (by decide +kernel)
set_option maxRecDepth 20000 in
theorem gX6_rules_X6_in : GoodIn wsX6_rules (va_wsS RX6 44 yX6_in wsX6_in) := goodIn_app (goodIn_of _ (by decide +kernel)) ggX6_rules_X6_in
set_option maxRecDepth 20000 in
theorem ggX6_rules_X6_isMember : GoodIn wsX6_rules wsX6_isMember := goodIn_r _ [8, 2, 3, 4, 5] (by decide +kernel) (by decide +kernel)
set_option maxRecDepth 20000 in
theorem gX6_rules_X6_isMember : GoodIn wsX6_rules (va_wsS RX6 76 yX6_isMember wsX6_isMember) := goodIn_app (goodIn_of _ (by decide +kernel)) ggX6_rules_X6_isMember
set_option maxRecDepth 20000 in
theorem ggX6_rules_X6_bad : GoodIn wsX6_rules wsX6_bad := goodIn_r _ [12, 13, 22, 23, 24, 25, 26, 27, 28, 29, 30, 31, 32, 33, 34, 35, 36, 37, 38, 39, 40, 41, 42] (by decide +kernel) (by decide +kernel)
set_option maxRecDepth 20000 in
theorem gX6_rules_X6_bad : GoodIn wsX6_rules (wsV RX6 59 RX6 yX6_bad wsX6_bad) := goodIn_app (goodIn_of _ (by decide +kernel)) ggX6_rules_X6_bad
set_option maxRecDepth 20000 in
theorem ggX6_rules_X6_leavesState : GoodIn wsX6_rules wsX6_leavesState := goodIn_r _ [17, 18, 19, 20, 1, 21, 22, 23, 24, 25, 26, 27, 28, 29, 30, 31, 32, 33, 34, 35, 36, 37, 38, 39, 40, 41, 42] (by decide +kernel) (by decide +kernel)
set_option maxRecDepth 20000 in
theorem gX6_rules_X6_leavesState : GoodIn wsX6_rules (wsV RX6 66 RX6 yX6_leavesState wsX6_leavesState) := goodIn_app (goodIn_of _ (by decide +kernel)) ggX6_rules_X6_leavesState
theorem dX6_rules_0 : decode cX6_rules 0 = .ok (.iload_n 1, 1) := by decide +kernel
theorem dX6_rules_1 : decode cX6_rules 1 = .ok (.iconst 4, 1) := by decide +kernel
theorem dX6_rules_2 : decode cX6_rules 2 = .ok (.if_icmp .ne 13, 3) := by decide +kernel
theorem dX6_rules_5 : decode cX6_rules 5 = .ok (.iload_n 2, 1) := by decide +kernel
theorem dX6_rules_6 : decode cX6_rules 6 = .ok (.iconst 0, 1) := by decide +kernel
theorem dX6_rules_7 : decode cX6_rules 7 = .ok (.bipush 9, 2) := by decide +kernel
theorem dX6_rules_9 : decode cX6_rules 9 = .ok (.invokestatic 44, 3) := by decide +kernel
theorem dX6_rules_12 : decode cX6_rules 12 = .ok (.goto 40, 3) := by decide +kernel
theorem dX6_rules_15 : decode cX6_rules 15 = .ok (.iload_n 1, 1) := by decide +kernel
theorem dX6_rules_16 : decode cX6_rules 16 = .ok (.iconst 5, 1) := by decide +kernel
theorem dX6_rules_17 : decode cX6_rules 17 = .ok (.if_icmp .ne 13, 3) := by decide +kernel
theorem dX6_rules_20 : decode cX6_rules 20 = .ok (.iload_n 2, 1) := by decide +kernel
theorem dX6_rules_21 : decode cX6_rules 21 = .ok (.iconst 1, 1) := by decide +kernel
theorem dX6_rules_22 : decode cX6_rules 22 = .ok (.bipush 12, 2) := by decide +kernel
theorem dX6_rules_24 : decode cX6_rules 24 = .ok (.invokestatic 44, 3) := by decide +kernel
theorem dX6_rules_27 : decode cX6_rules 27 = .ok (.goto 25, 3) := by decide +kernel
theorem dX6_rules_30 : decode cX6_rules 30 = .ok (.iload_n 1, 1) := by decide +kernel
theorem dX6_rules_31 : decode cX6_rules 31 = .ok (.invokestatic 76, 3) := by decide +kernel
theorem dX6_rules_34 : decode cX6_rules 34 = .ok (.ifCond .eq 17, 3) := by decide +kernel
theorem dX6_rules_37 : decode cX6_rules 37 = .ok (.iload_n 2, 1) := by decide +kernel
theorem dX6_rules_38 : decode cX6_rules 38 = .ok (.iconst 0, 1) := by decide +kernel
theorem dX6_rules_39 : decode cX6_rules 39 = .ok (.bipush 80, 2) := by decide +kernel
theorem dX6_rules_41 : decode cX6_rules 41 = .ok (.invokestatic 44, 3) := by decide +kernel
theorem dX6_rules_44 : decode cX6_rules 44 = .ok (.ifCond .eq 7, 3) := by decide +kernel
theorem dX6_rules_47 : decode cX6_rules 47 = .ok (.iconst 1, 1) := by decide +kernel
theorem dX6_rules_48 : decode cX6_rules 48 = .ok (.goto 4, 3) := by decide +kernel
theorem dX6_rules_51 : decode cX6_rules 51 = .ok (.iconst 0, 1) := by decide +kernel
theorem dX6_rules_52 : decode cX6_rules 52 = .ok (.istore_n 3, 1) := by decide +kernel
theorem dX6_rules_53 : decode cX6_rules 53 = .ok (.iload_n 3, 1) := by decide +kernel
theorem dX6_rules_54 : decode cX6_rules 54 = .ok (.ifCond .ne 8, 3) := by decide +kernel
theorem dX6_rules_57 : decode cX6_rules 57 = .ok (.aload_n 0, 1) := by decide +kernel
theorem dX6_rules_58 : decode cX6_rules 58 = .ok (.invokevirtual 59, 3) := by decide +kernel
