set_option maxRecDepth 20000 in
theorem ggX0_init_J7_fill_53178 : GoodIn wsX0_init wsJ7_fill_53178 := goodIn_r _ [11] (by decide +kernel) (by decide +kernel)
set_option maxRecDepth 20000 in
theorem gX0_init_J7_fill_53178 : GoodIn wsX0_init (va_wsS RX0 18 yJ7_fill_53178 wsJ7_fill_53178) := goodIn_app (goodIn_of _ (by decide +kernel)) ggX0_init_J7_fill_53178
theorem dX0_init_0 : decode cX0_init 0 = .ok (.aload_n 0, 1) := by decide +kernel
theorem dX0_init_1 : decode cX0_init 1 = .ok (.invokespecial 3, 3) := by decide +kernel
theorem dX0_init_4 : decode cX0_init 4 = .ok (.aload_n 0, 1) := by decide +kernel
theorem dX0_init_5 : decode cX0_init 5 = .ok (.sipush 200, 3) := by decide +kernel
theorem dX0_init_8 : decode cX0_init 8 = .ok (.newarray .int, 2) := by decide +kernel
theorem dX0_init_10 : decode cX0_init 10 = .ok (.putfield 9, 3) := by decide +kernel
theorem dX0_init_13 : decode cX0_init 13 = .ok (.aload_n 0, 1) := by decide +kernel
theorem dX0_init_14 : decode cX0_init 14 = .ok (.iconst 4, 1) := by decide +kernel
theorem dX0_init_15 : decode cX0_init 15 = .ok (.newarray .int, 2) := by decide +kernel
theorem dX0_init_17 : decode cX0_init 17 = .ok (.putfield 15, 3) := by decide +kernel
theorem dX0_init_20 : decode cX0_init 20 = .ok (.aload_n 0, 1) := by decide +kernel
theorem dX0_init_21 : decode cX0_init 21 = .ok (.getfield 15, 3) := by decide +kernel
theorem dX0_init_24 : decode cX0_init 24 = .ok (.bipush 8, 2) := by decide +kernel
theorem dX0_init_26 : decode cX0_init 26 = .ok (.invokestatic 18, 3) := by decide +kernel
theorem dX0_init_29 : decode cX0_init 29 = .ok (.aload_n 0, 1) := by decide +kernel
theorem dX0_init_30 : decode cX0_init 30 = .ok (.iconst 4, 1) := by decide +kernel
theorem dX0_init_31 : decode cX0_init 31 = .ok (.putfield 24, 3) := by decide +kernel
theorem dX0_init_34 : decode cX0_init 34 = .ok (.return_, 1) := by decide +kernel
theorem dX0_days_0 : decode cX0_days 0 = .ok (.aload_n 0, 1) := by decide +kernel
theorem dX0_days_1 : decode cX0_days 1 = .ok (.getfield 28, 3) := by decide +kernel
theorem dX0_days_4 : decode cX0_days 4 = .ok (.ireturn, 1) := by decide +kernel
theorem dX0_gap_0 : decode cX0_gap 0 = .ok (.aload_n 0, 1) := by decide +kernel
theorem dX0_gap_1 : decode cX0_gap 1 = .ok (.getfield 31, 3) := by decide +kernel
theorem dX0_gap_4 : decode cX0_gap 4 = .ok (.ireturn, 1) := by decide +kernel
theorem dX0_few_0 : decode cX0_few 0 = .ok (.aload_n 0, 1) := by decide +kernel
theorem dX0_few_1 : decode cX0_few 1 = .ok (.getfield 24, 3) := by decide +kernel
theorem dX0_few_4 : decode cX0_few 4 = .ok (.ireturn, 1) := by decide +kernel
theorem dX0_has_0 : decode cX0_has 0 = .ok (.iload_n 1, 1) := by decide +kernel
theorem dX0_has_1 : decode cX0_has 1 = .ok (.ifCond .lt 15, 3) := by decide +kernel
theorem dX0_has_4 : decode cX0_has 4 = .ok (.iload_n 1, 1) := by decide +kernel
theorem dX0_has_5 : decode cX0_has 5 = .ok (.aload_n 0, 1) := by decide +kernel
theorem dX0_has_6 : decode cX0_has 6 = .ok (.getfield 28, 3) := by decide +kernel
theorem dX0_has_9 : decode cX0_has 9 = .ok (.if_icmp .ge 7, 3) := by decide +kernel
theorem dX0_has_12 : decode cX0_has 12 = .ok (.iconst 1, 1) := by decide +kernel
theorem dX0_has_13 : decode cX0_has 13 = .ok (.goto 4, 3) := by decide +kernel
theorem dX0_has_16 : decode cX0_has 16 = .ok (.iconst 0, 1) := by decide +kernel
theorem dX0_has_17 : decode cX0_has 17 = .ok (.ireturn, 1) := by decide +kernel
set_option maxRecDepth 20000 in
theorem ggX0_member_X0_has : GoodIn wsX0_member wsX0_has := goodIn_r _ [6, 7, 14, 15, 16, 17, 18] (by decide +kernel) (by decide +kernel)
set_option maxRecDepth 20000 in
theorem gX0_member_X0_has : GoodIn wsX0_member (wsV RX0 34 RX0 yX0_has wsX0_has) := goodIn_app (goodIn_of _ (by decide +kernel)) ggX0_member_X0_has
set_option maxRecDepth 20000 in
theorem ggX0_member_X5_isMember : GoodIn wsX0_member wsX5_isMember := goodIn_r _ [10, 11, 12, 9, 13] (by decide +kernel) (by decide +kernel)
set_option maxRecDepth 20000 in
theorem gX0_member_X5_isMember_n38 : GoodIn wsX0_member (wsX5_isMember) := ggX0_member_X5_isMember
theorem dX0_member_0 : decode cX0_member 0 = .ok (.aload_n 0, 1) := by decide +kernel
theorem dX0_member_1 : decode cX0_member 1 = .ok (.iload_n 1, 1) := by decide +kernel
theorem dX0_member_2 : decode cX0_member 2 = .ok (.invokevirtual 34, 3) := by decide +kernel
theorem dX0_member_5 : decode cX0_member 5 = .ok (.ifCond .eq 23, 3) := by decide +kernel
theorem dX0_member_8 : decode cX0_member 8 = .ok (.iload_n 2, 1) := by decide +kernel
theorem dX0_member_9 : decode cX0_member 9 = .ok (.invokestatic 38, 3) := by decide +kernel
theorem dX0_member_12 : decode cX0_member 12 = .ok (.ifCond .eq 16, 3) := by decide +kernel
theorem dX0_member_15 : decode cX0_member 15 = .ok (.aload_n 0, 1) := by decide +kernel
theorem dX0_member_16 : decode cX0_member 16 = .ok (.getfield 9, 3) := by decide +kernel
theorem dX0_member_19 : decode cX0_member 19 = .ok (.iload_n 1, 1) := by decide +kernel
theorem dX0_member_20 : decode cX0_member 20 = .ok (.iconst 4, 1) := by decide +kernel
theorem dX0_member_21 : decode cX0_member 21 = .ok (.imul, 1) := by decide +kernel
theorem dX0_member_22 : decode cX0_member 22 = .ok (.iload_n 2, 1) := by decide +kernel
theorem dX0_member_23 : decode cX0_member 23 = .ok (.iadd, 1) := by decide +kernel
theorem dX0_member_24 : decode cX0_member 24 = .ok (.iaload, 1) := by decide +kernel
theorem dX0_member_25 : decode cX0_member 25 = .ok (.goto 6, 3) := by decide +kernel
theorem dX0_member_28 : decode cX0_member 28 = .ok (.sipush (-10000), 3) := by decide +kernel
theorem dX0_member_31 : decode cX0_member 31 = .ok (.ireturn, 1) := by decide +kernel
set_option maxRecDepth 20000 in
theorem ggX0_put_X0_has : GoodIn wsX0_put wsX0_has := goodIn_r _ [6, 7, 14, 15, 16, 17, 18] (by decide +kernel) (by decide +kernel)
set_option maxRecDepth 20000 in
theorem gX0_put_X0_has : GoodIn wsX0_put (wsV RX0 34 RX0 yX0_has wsX0_has) := goodIn_app (goodIn_of _ (by decide +kernel)) ggX0_put_X0_has
set_option maxRecDepth 20000 in
theorem ggX0_put_X5_isMember : GoodIn wsX0_put wsX5_isMember := goodIn_r _ [10, 11, 12, 9, 13] (by decide +kernel) (by decide +kernel)
set_option maxRecDepth 20000 in
theorem gX0_put_X5_isMember_n38 : GoodIn wsX0_put (wsX5_isMember) := ggX0_put_X5_isMember
theorem dX0_put_0 : decode cX0_put 0 = .ok (.aload_n 0, 1) := by decide +kernel
theorem dX0_put_1 : decode cX0_put 1 = .ok (.iload_n 1, 1) := by decide +kernel
theorem dX0_put_2 : decode cX0_put 2 = .ok (.invokevirtual 34, 3) := by decide +kernel
theorem dX0_put_5 : decode cX0_put 5 = .ok (.ifCond .eq 21, 3) := by decide +kernel
theorem dX0_put_8 : decode cX0_put 8 = .ok (.iload_n 2, 1) := by decide +kernel
theorem dX0_put_9 : decode cX0_put 9 = .ok (.invokestatic 38, 3) := by decide +kernel
theorem dX0_put_12 : decode cX0_put 12 = .ok (.ifCond .eq 14, 3) := by decide +kernel
theorem dX0_put_15 : decode cX0_put 15 = .ok (.aload_n 0, 1) := by decide +kernel
theorem dX0_put_16 : decode cX0_put 16 = .ok (.getfield 9, 3) := by decide +kernel
theorem dX0_put_19 : decode cX0_put 19 = .ok (.iload_n 1, 1) := by decide +kernel
theorem dX0_put_20 : decode cX0_put 20 = .ok (.iconst 4, 1) := by decide +kernel
theorem dX0_put_21 : decode cX0_put 21 = .ok (.imul, 1) := by decide +kernel
theorem dX0_put_22 : decode cX0_put 22 = .ok (.iload_n 2, 1) := by decide +kernel
theorem dX0_put_23 : decode cX0_put 23 = .ok (.iadd, 1) := by decide +kernel
theorem dX0_put_24 : decode cX0_put 24 = .ok (.iload_n 3, 1) := by decide +kernel
theorem dX0_put_25 : decode cX0_put 25 = .ok (.iastore, 1) := by decide +kernel
theorem dX0_put_26 : decode cX0_put 26 = .ok (.return_, 1) := by decide +kernel
set_option maxRecDepth 20000 in
theorem ggX0_append_X0_put : GoodIn wsX0_append wsX0_put := goodIn_r _ [6, 7, 8, 9, 10, 5, 11, 1, 12, 13, 14, 15, 16, 17, 18, 19, 20, 21, 22] (by decide +kernel) (by decide +kernel)
set_option maxRecDepth 20000 in
theorem gX0_append_X0_put : GoodIn wsX0_append (wsV RX0 41 RX0 yX0_put wsX0_put) := goodIn_app (goodIn_of _ (by decide +kernel)) ggX0_append_X0_put
theorem dX0_append_0 : decode cX0_append 0 = .ok (.aload_n 0, 1) := by decide +kernel
theorem dX0_append_1 : decode cX0_append 1 = .ok (.getfield 28, 3) := by decide +kernel
theorem dX0_append_4 : decode cX0_append 4 = .ok (.bipush 50, 2) := by decide +kernel
theorem dX0_append_6 : decode cX0_append 6 = .ok (.if_icmp .lt 6, 3) := by decide +kernel
theorem dX0_append_9 : decode cX0_append 9 = .ok (.bipush (-4), 2) := by decide +kernel
theorem dX0_append_11 : decode cX0_append 11 = .ok (.ireturn, 1) := by decide +kernel
theorem dX0_append_12 : decode cX0_append 12 = .ok (.aload_n 0, 1) := by decide +kernel
theorem dX0_append_13 : decode cX0_append 13 = .ok (.getfield 28, 3) := by decide +kernel
theorem dX0_append_16 : decode cX0_append 16 = .ok (.istore 5, 2) := by decide +kernel
theorem dX0_append_18 : decode cX0_append 18 = .ok (.aload_n 0, 1) := by decide +kernel
theorem dX0_append_19 : decode cX0_append 19 = .ok (.dup, 1) := by decide +kernel
theorem dX0_append_20 : decode cX0_append 20 = .ok (.getfield 28, 3) := by decide +kernel
theorem dX0_append_23 : decode cX0_append 23 = .ok (.iconst 1, 1) := by decide +kernel
theorem dX0_append_24 : decode cX0_append 24 = .ok (.iadd, 1) := by decide +kernel
theorem dX0_append_25 : decode cX0_append 25 = .ok (.putfield 28, 3) := by decide +kernel
theorem dX0_append_28 : decode cX0_append 28 = .ok (.aload_n 0, 1) := by decide +kernel
theorem dX0_append_29 : decode cX0_append 29 = .ok (.iload 5, 2) := by decide +kernel
theorem dX0_append_31 : decode cX0_append 31 = .ok (.iconst 0, 1) := by decide +kernel
theorem dX0_append_32 : decode cX0_append 32 = .ok (.iload_n 1, 1) := by decide +kernel
theorem dX0_append_33 : decode cX0_append 33 = .ok (.invokevirtual 41, 3) := by decide +kernel
theorem dX0_append_36 : decode cX0_append 36 = .ok (.aload_n 0, 1) := by decide +kernel
theorem dX0_append_37 : decode cX0_append 37 = .ok (.iload 5, 2) := by decide +kernel
theorem dX0_append_39 : decode cX0_append 39 = .ok (.iconst 1, 1) := by decide +kernel
theorem dX0_append_40 : decode cX0_append 40 = .ok (.iload_n 2, 1) := by decide +kernel
theorem dX0_append_41 : decode cX0_append 41 = .ok (.invokevirtual 41, 3) := by decide +kernel
theorem dX0_append_44 : decode cX0_append 44 = .ok (.aload_n 0, 1) := by decide +kernel
theorem dX0_append_45 : decode cX0_append 45 = .ok (.iload 5, 2) := by decide +kernel
theorem dX0_append_47 : decode cX0_append 47 = .ok (.iconst 2, 1) := by decide +kernel
theorem dX0_append_48 : decode cX0_append 48 = .ok (.iload_n 3, 1) := by decide +kernel
theorem dX0_append_49 : decode cX0_append 49 = .ok (.invokevirtual 41, 3) := by decide +kernel
theorem dX0_append_52 : decode cX0_append 52 = .ok (.aload_n 0, 1) := by decide +kernel
theorem dX0_append_53 : decode cX0_append 53 = .ok (.iload 5, 2) := by decide +kernel
theorem dX0_append_55 : decode cX0_append 55 = .ok (.iconst 3, 1) := by decide +kernel
theorem dX0_append_56 : decode cX0_append 56 = .ok (.iload 4, 2) := by decide +kernel
theorem dX0_append_58 : decode cX0_append 58 = .ok (.invokevirtual 41, 3) := by decide +kernel
theorem dX0_append_61 : decode cX0_append 61 = .ok (.iload 5, 2) := by decide +kernel
theorem dX0_append_63 : decode cX0_append 63 = .ok (.ireturn, 1) := by decide +kernel
theorem dX0_removeAll_0 : decode cX0_removeAll 0 = .ok (.aload_n 0, 1) := by decide +kernel
theorem dX0_removeAll_1 : decode cX0_removeAll 1 = .ok (.iconst 0, 1) := by decide +kernel
theorem dX0_removeAll_2 : decode cX0_removeAll 2 = .ok (.putfield 28, 3) := by decide +kernel
theorem dX0_removeAll_5 : decode cX0_removeAll 5 = .ok (.return_, 1) := by decide +kernel
set_option maxRecDepth 20000 in
theorem ggX0_rule_X5_isMember : GoodIn wsX0_rule wsX5_isMember := goodIn_r _ [6, 7, 8, 5, 9] (by decide +kernel) (by decide +kernel)
set_option maxRecDepth 20000 in
theorem gX0_rule_X5_isMember_n38 : GoodIn wsX0_rule (wsX5_isMember) := ggX0_rule_X5_isMember
theorem dX0_rule_0 : decode cX0_rule 0 = .ok (.iload_n 1, 1) := by decide +kernel
theorem dX0_rule_1 : decode cX0_rule 1 = .ok (.iconst 4, 1) := by decide +kernel
theorem dX0_rule_2 : decode cX0_rule 2 = .ok (.if_icmp .ne 8, 3) := by decide +kernel
theorem dX0_rule_5 : decode cX0_rule 5 = .ok (.aload_n 0, 1) := by decide +kernel
theorem dX0_rule_6 : decode cX0_rule 6 = .ok (.getfield 31, 3) := by decide +kernel
theorem dX0_rule_9 : decode cX0_rule 9 = .ok (.ireturn, 1) := by decide +kernel
theorem dX0_rule_10 : decode cX0_rule 10 = .ok (.iload_n 1, 1) := by decide +kernel
theorem dX0_rule_11 : decode cX0_rule 11 = .ok (.iconst 5, 1) := by decide +kernel
theorem dX0_rule_12 : decode cX0_rule 12 = .ok (.if_icmp .ne 8, 3) := by decide +kernel
theorem dX0_rule_15 : decode cX0_rule 15 = .ok (.aload_n 0, 1) := by decide +kernel
theorem dX0_rule_16 : decode cX0_rule 16 = .ok (.getfield 24, 3) := by decide +kernel
theorem dX0_rule_19 : decode cX0_rule 19 = .ok (.ireturn, 1) := by decide +kernel
theorem dX0_rule_20 : decode cX0_rule 20 = .ok (.iload_n 1, 1) := by decide +kernel
theorem dX0_rule_21 : decode cX0_rule 21 = .ok (.invokestatic 38, 3) := by decide +kernel
theorem dX0_rule_24 : decode cX0_rule 24 = .ok (.ifCond .eq 12, 3) := by decide +kernel
theorem dX0_rule_27 : decode cX0_rule 27 = .ok (.aload_n 0, 1) := by decide +kernel
theorem dX0_rule_28 : decode cX0_rule 28 = .ok (.getfield 15, 3) := by decide +kernel
theorem dX0_rule_31 : decode cX0_rule 31 = .ok (.iload_n 1, 1) := by decide +kernel
theorem dX0_rule_32 : decode cX0_rule 32 = .ok (.iaload, 1) := by decide +kernel
theorem dX0_rule_33 : decode cX0_rule 33 = .ok (.goto 4, 3) := by decide +kernel
theorem dX0_rule_36 : decode cX0_rule 36 = .ok (.iconst 0, 1) := by decide +kernel
theorem dX0_rule_37 : decode cX0_rule 37 = .ok (.ireturn, 1) := by decide +kernel
set_option maxRecDepth 20000 in
theorem ggX0_setRule_X5_isMember : GoodIn wsX0_setRule wsX5_isMember := goodIn_r _ [6, 7, 8, 5, 9] (by decide +kernel) (by decide +kernel)
set_option maxRecDepth 20000 in
theorem gX0_setRule_X5_isMember_n38 : GoodIn wsX0_setRule (wsX5_isMember) := ggX0_setRule_X5_isMember
theorem dX0_setRule_0 : decode cX0_setRule 0 = .ok (.iload_n 1, 1) := by decide +kernel
theorem dX0_setRule_1 : decode cX0_setRule 1 = .ok (.iconst 4, 1) := by decide +kernel
theorem dX0_setRule_2 : decode cX0_setRule 2 = .ok (.if_icmp .ne 11, 3) := by decide +kernel
theorem dX0_setRule_5 : decode cX0_setRule 5 = .ok (.aload_n 0, 1) := by decide +kernel
theorem dX0_setRule_6 : decode cX0_setRule 6 = .ok (.iload_n 2, 1) := by decide +kernel
theorem dX0_setRule_7 : decode cX0_setRule 7 = .ok (.putfield 31, 3) := by decide +kernel
theorem dX0_setRule_10 : decode cX0_setRule 10 = .ok (.goto 30, 3) := by decide +kernel
theorem dX0_setRule_13 : decode cX0_setRule 13 = .ok (.iload_n 1, 1) := by decide +kernel
theorem dX0_setRule_14 : decode cX0_setRule 14 = .ok (.iconst 5, 1) := by decide +kernel
theorem dX0_setRule_15 : decode cX0_setRule 15 = .ok (.if_icmp .ne 11, 3) := by decide +kernel
theorem dX0_setRule_18 : decode cX0_setRule 18 = .ok (.aload_n 0, 1) := by decide +kernel
theorem dX0_setRule_19 : decode cX0_setRule 19 = .ok (.iload_n 2, 1) := by decide +kernel
theorem dX0_setRule_20 : decode cX0_setRule 20 = .ok (.putfield 24, 3) := by decide +kernel
theorem dX0_setRule_23 : decode cX0_setRule 23 = .ok (.goto 17, 3) := by decide +kernel
theorem dX0_setRule_26 : decode cX0_setRule 26 = .ok (.iload_n 1, 1) := by decide +kernel
theorem dX0_setRule_27 : decode cX0_setRule 27 = .ok (.invokestatic 38, 3) := by decide +kernel
theorem dX0_setRule_30 : decode cX0_setRule 30 = .ok (.ifCond .eq 10, 3) := by decide +kernel
theorem dX0_setRule_33 : decode cX0_setRule 33 = .ok (.aload_n 0, 1) := by decide +kernel
theorem dX0_setRule_34 : decode cX0_setRule 34 = .ok (.getfield 15, 3) := by decide +kernel
theorem dX0_setRule_37 : decode cX0_setRule 37 = .ok (.iload_n 1, 1) := by decide +kernel
theorem dX0_setRule_38 : decode cX0_setRule 38 = .ok (.iload_n 2, 1) := by decide +kernel
theorem dX0_setRule_39 : decode cX0_setRule 39 = .ok (.iastore, 1) := by decide +kernel
theorem dX0_setRule_40 : decode cX0_setRule 40 = .ok (.return_, 1) := by decide +kernel
theorem dX0_copyFrom_0 : decode cX0_copyFrom 0 = .ok (.aload_n 1, 1) := by decide +kernel
theorem dX0_copyFrom_1 : decode cX0_copyFrom 1 = .ok (.getfield 9, 3) := by decide +kernel
theorem dX0_copyFrom_4 : decode cX0_copyFrom 4 = .ok (.iconst 0, 1) := by decide +kernel
theorem dX0_copyFrom_5 : decode cX0_copyFrom 5 = .ok (.aload_n 0, 1) := by decide +kernel
theorem dX0_copyFrom_6 : decode cX0_copyFrom 6 = .ok (.getfield 9, 3) := by decide +kernel
theorem dX0_copyFrom_9 : decode cX0_copyFrom 9 = .ok (.iconst 0, 1) := by decide +kernel
theorem dX0_copyFrom_10 : decode cX0_copyFrom 10 = .ok (.aload_n 0, 1) := by decide +kernel
theorem dX0_copyFrom_11 : decode cX0_copyFrom 11 = .ok (.getfield 9, 3) := by decide +kernel
theorem dX0_copyFrom_14 : decode cX0_copyFrom 14 = .ok (.arraylength, 1) := by decide +kernel
theorem dX0_copyFrom_15 : decode cX0_copyFrom 15 = .ok (.invokestatic 45, 3) := by decide +kernel
theorem dX0_copyFrom_18 : decode cX0_copyFrom 18 = .ok (.aload_n 1, 1) := by decide +kernel
theorem dX0_copyFrom_19 : decode cX0_copyFrom 19 = .ok (.getfield 15, 3) := by decide +kernel
theorem dX0_copyFrom_22 : decode cX0_copyFrom 22 = .ok (.iconst 0, 1) := by decide +kernel
theorem dX0_copyFrom_23 : decode cX0_copyFrom 23 = .ok (.aload_n 0, 1) := by decide +kernel
theorem dX0_copyFrom_24 : decode cX0_copyFrom 24 = .ok (.getfield 15, 3) := by decide +kernel
theorem dX0_copyFrom_27 : decode cX0_copyFrom 27 = .ok (.iconst 0, 1) := by decide +kernel
theorem dX0_copyFrom_28 : decode cX0_copyFrom 28 = .ok (.aload_n 0, 1) := by decide +kernel
theorem dX0_copyFrom_29 : decode cX0_copyFrom 29 = .ok (.getfield 15, 3) := by decide +kernel
theorem dX0_copyFrom_32 : decode cX0_copyFrom 32 = .ok (.arraylength, 1) := by decide +kernel
theorem dX0_copyFrom_33 : decode cX0_copyFrom 33 = .ok (.invokestatic 45, 3) := by decide +kernel
theorem dX0_copyFrom_36 : decode cX0_copyFrom 36 = .ok (.aload_n 0, 1) := by decide +kernel
theorem dX0_copyFrom_37 : decode cX0_copyFrom 37 = .ok (.aload_n 1, 1) := by decide +kernel
theorem dX0_copyFrom_38 : decode cX0_copyFrom 38 = .ok (.getfield 28, 3) := by decide +kernel
theorem dX0_copyFrom_41 : decode cX0_copyFrom 41 = .ok (.putfield 28, 3) := by decide +kernel
theorem dX0_copyFrom_44 : decode cX0_copyFrom 44 = .ok (.aload_n 0, 1) := by decide +kernel
theorem dX0_copyFrom_45 : decode cX0_copyFrom 45 = .ok (.aload_n 1, 1) := by decide +kernel
theorem dX0_copyFrom_46 : decode cX0_copyFrom 46 = .ok (.getfield 31, 3) := by decide +kernel
theorem dX0_copyFrom_49 : decode cX0_copyFrom 49 = .ok (.putfield 31, 3) := by decide +kernel
theorem dX0_copyFrom_52 : decode cX0_copyFrom 52 = .ok (.aload_n 0, 1) := by decide +kernel
theorem dX0_copyFrom_53 : decode cX0_copyFrom 53 = .ok (.aload_n 1, 1) := by decide +kernel
theorem dX0_copyFrom_54 : decode cX0_copyFrom 54 = .ok (.getfield 24, 3) := by decide +kernel
theorem dX0_copyFrom_57 : decode cX0_copyFrom 57 = .ok (.putfield 24, 3) := by decide +kernel
theorem dX0_copyFrom_60 : decode cX0_copyFrom 60 = .ok (.return_, 1) := by decide +kernel
set_option maxRecDepth 20000 in
theorem ggX0_fillByChance_X0_put : GoodIn wsX0_fillByChance wsX0_put := goodIn_r _ [20, 21, 22, 23, 24, 19, 25, 8, 26, 27, 28, 29, 30, 31, 40, 41, 42, 43, 44] (by decide +kernel) (by decide +kernel)
set_option maxRecDepth 20000 in
theorem gX0_fillByChance_X0_put : GoodIn wsX0_fillByChance (wsV RX0 41 RX0 yX0_put wsX0_put) := goodIn_app (goodIn_of _ (by decide +kernel)) ggX0_fillByChance_X0_put
set_option maxRecDepth 20000 in
theorem ggX0_fillByChance_X0_lastNoted : GoodIn wsX0_fillByChance wsX0_lastNoted := goodIn_r _ [35, 36, 37, 38, 19, 39, 21, 22, 23, 24, 25, 8, 26, 27, 28, 29, 30, 31, 40, 41, 42, 43, 44] (by decide +kernel) (by decide +kernel)
set_option maxRecDepth 20000 in
theorem gX0_fillByChance_X0_lastNoted : GoodIn wsX0_fillByChance (wsV RX0 74 RX0 yX0_lastNoted wsX0_lastNoted) := goodIn_app (goodIn_of _ (by decide +kernel)) ggX0_fillByChance_X0_lastNoted
theorem dX0_fillByChance_0 : decode cX0_fillByChance 0 = .ok (.aload_n 0, 1) := by decide +kernel
theorem dX0_fillByChance_1 : decode cX0_fillByChance 1 = .ok (.iconst 0, 1) := by decide +kernel
theorem dX0_fillByChance_2 : decode cX0_fillByChance 2 = .ok (.iload_n 2, 1) := by decide +kernel
theorem dX0_fillByChance_3 : decode cX0_fillByChance 3 = .ok (.bipush 50, 2) := by decide +kernel
theorem dX0_fillByChance_5 : decode cX0_fillByChance 5 = .ok (.invokestatic 51, 3) := by decide +kernel
theorem dX0_fillByChance_8 : decode cX0_fillByChance 8 = .ok (.invokestatic 57, 3) := by decide +kernel
theorem dX0_fillByChance_11 : decode cX0_fillByChance 11 = .ok (.putfield 28, 3) := by decide +kernel
theorem dX0_fillByChance_14 : decode cX0_fillByChance 14 = .ok (.iload_n 1, 1) := by decide +kernel
theorem dX0_fillByChance_15 : decode cX0_fillByChance 15 = .ok (.i2l, 1) := by decide +kernel
theorem dX0_fillByChance_16 : decode cX0_fillByChance 16 = .ok (.lstore_n 3, 1) := by decide +kernel
theorem dX0_fillByChance_17 : decode cX0_fillByChance 17 = .ok (.iconst 0, 1) := by decide +kernel
theorem dX0_fillByChance_18 : decode cX0_fillByChance 18 = .ok (.istore 5, 2) := by decide +kernel
theorem dX0_fillByChance_20 : decode cX0_fillByChance 20 = .ok (.iconst 0, 1) := by decide +kernel
theorem dX0_fillByChance_21 : decode cX0_fillByChance 21 = .ok (.istore 6, 2) := by decide +kernel
theorem dX0_fillByChance_23 : decode cX0_fillByChance 23 = .ok (.iload 6, 2) := by decide +kernel
theorem dX0_fillByChance_25 : decode cX0_fillByChance 25 = .ok (.aload_n 0, 1) := by decide +kernel
theorem dX0_fillByChance_26 : decode cX0_fillByChance 26 = .ok (.getfield 28, 3) := by decide +kernel
theorem dX0_fillByChance_29 : decode cX0_fillByChance 29 = .ok (.if_icmp .ge 115, 3) := by decide +kernel
theorem dX0_fillByChance_32 : decode cX0_fillByChance 32 = .ok (.iconst 0, 1) := by decide +kernel
theorem dX0_fillByChance_33 : decode cX0_fillByChance 33 = .ok (.istore 7, 2) := by decide +kernel
theorem dX0_fillByChance_35 : decode cX0_fillByChance 35 = .ok (.iload 7, 2) := by decide +kernel
theorem dX0_fillByChance_37 : decode cX0_fillByChance 37 = .ok (.iconst 4, 1) := by decide +kernel
theorem dX0_fillByChance_38 : decode cX0_fillByChance 38 = .ok (.if_icmp .ge 100, 3) := by decide +kernel
theorem dX0_fillByChance_41 : decode cX0_fillByChance 41 = .ok (.lload_n 3, 1) := by decide +kernel
theorem dX0_fillByChance_42 : decode cX0_fillByChance 42 = .ok (.ldc2_w 60, 3) := by decide +kernel
theorem dX0_fillByChance_45 : decode cX0_fillByChance 45 = .ok (.lmul, 1) := by decide +kernel
theorem dX0_fillByChance_46 : decode cX0_fillByChance 46 = .ok (.ldc2_w 62, 3) := by decide +kernel
theorem dX0_fillByChance_49 : decode cX0_fillByChance 49 = .ok (.ladd, 1) := by decide +kernel
theorem dX0_fillByChance_50 : decode cX0_fillByChance 50 = .ok (.ldc2_w 64, 3) := by decide +kernel
theorem dX0_fillByChance_53 : decode cX0_fillByChance 53 = .ok (.lrem, 1) := by decide +kernel
theorem dX0_fillByChance_54 : decode cX0_fillByChance 54 = .ok (.lstore_n 3, 1) := by decide +kernel
theorem dX0_fillByChance_55 : decode cX0_fillByChance 55 = .ok (.lload_n 3, 1) := by decide +kernel
theorem dX0_fillByChance_56 : decode cX0_fillByChance 56 = .ok (.ldc2_w 66, 3) := by decide +kernel
theorem dX0_fillByChance_59 : decode cX0_fillByChance 59 = .ok (.ldiv, 1) := by decide +kernel
theorem dX0_fillByChance_60 : decode cX0_fillByChance 60 = .ok (.ldc2_w 68, 3) := by decide +kernel
theorem dX0_fillByChance_63 : decode cX0_fillByChance 63 = .ok (.lrem, 1) := by decide +kernel
theorem dX0_fillByChance_64 : decode cX0_fillByChance 64 = .ok (.lconst 0, 1) := by decide +kernel
theorem dX0_fillByChance_65 : decode cX0_fillByChance 65 = .ok (.lcmp, 1) := by decide +kernel
theorem dX0_fillByChance_66 : decode cX0_fillByChance 66 = .ok (.ifCond .ne 20, 3) := by decide +kernel
theorem dX0_fillByChance_69 : decode cX0_fillByChance 69 = .ok (.aload_n 0, 1) := by decide +kernel
theorem dX0_fillByChance_70 : decode cX0_fillByChance 70 = .ok (.iload 6, 2) := by decide +kernel
theorem dX0_fillByChance_72 : decode cX0_fillByChance 72 = .ok (.iload 7, 2) := by decide +kernel
theorem dX0_fillByChance_74 : decode cX0_fillByChance 74 = .ok (.sipush (-10000), 3) := by decide +kernel
theorem dX0_fillByChance_77 : decode cX0_fillByChance 77 = .ok (.invokevirtual 41, 3) := by decide +kernel
theorem dX0_fillByChance_80 : decode cX0_fillByChance 80 = .ok (.iinc 5 1, 3) := by decide +kernel
theorem dX0_fillByChance_83 : decode cX0_fillByChance 83 = .ok (.goto 49, 3) := by decide +kernel
theorem dX0_fillByChance_86 : decode cX0_fillByChance 86 = .ok (.lload_n 3, 1) := by decide +kernel
theorem dX0_fillByChance_87 : decode cX0_fillByChance 87 = .ok (.ldc2_w 70, 3) := by decide +kernel
theorem dX0_fillByChance_90 : decode cX0_fillByChance 90 = .ok (.ldiv, 1) := by decide +kernel
theorem dX0_fillByChance_91 : decode cX0_fillByChance 91 = .ok (.ldc2_w 72, 3) := by decide +kernel
theorem dX0_fillByChance_94 : decode cX0_fillByChance 94 = .ok (.lrem, 1) := by decide +kernel
theorem dX0_fillByChance_95 : decode cX0_fillByChance 95 = .ok (.l2i, 1) := by decide +kernel
theorem dX0_fillByChance_96 : decode cX0_fillByChance 96 = .ok (.bipush 20, 2) := by decide +kernel
theorem dX0_fillByChance_98 : decode cX0_fillByChance 98 = .ok (.isub, 1) := by decide +kernel
theorem dX0_fillByChance_99 : decode cX0_fillByChance 99 = .ok (.istore 8, 2) := by decide +kernel
theorem dX0_fillByChance_101 : decode cX0_fillByChance 101 = .ok (.aload_n 0, 1) := by decide +kernel
theorem dX0_fillByChance_102 : decode cX0_fillByChance 102 = .ok (.iload 6, 2) := by decide +kernel
theorem dX0_fillByChance_104 : decode cX0_fillByChance 104 = .ok (.iload 7, 2) := by decide +kernel
theorem dX0_fillByChance_106 : decode cX0_fillByChance 106 = .ok (.sipush (-999), 3) := by decide +kernel
theorem dX0_fillByChance_109 : decode cX0_fillByChance 109 = .ok (.aload_n 0, 1) := by decide +kernel
theorem dX0_fillByChance_110 : decode cX0_fillByChance 110 = .ok (.iload 6, 2) := by decide +kernel
theorem dX0_fillByChance_112 : decode cX0_fillByChance 112 = .ok (.iload 7, 2) := by decide +kernel
theorem dX0_fillByChance_114 : decode cX0_fillByChance 114 = .ok (.invokevirtual 74, 3) := by decide +kernel
theorem dX0_fillByChance_117 : decode cX0_fillByChance 117 = .ok (.iload 8, 2) := by decide +kernel
theorem dX0_fillByChance_119 : decode cX0_fillByChance 119 = .ok (.iadd, 1) := by decide +kernel
theorem dX0_fillByChance_120 : decode cX0_fillByChance 120 = .ok (.sipush 999, 3) := by decide +kernel
theorem dX0_fillByChance_123 : decode cX0_fillByChance 123 = .ok (.invokestatic 51, 3) := by decide +kernel
theorem dX0_fillByChance_126 : decode cX0_fillByChance 126 = .ok (.invokestatic 57, 3) := by decide +kernel
theorem dX0_fillByChance_129 : decode cX0_fillByChance 129 = .ok (.invokevirtual 41, 3) := by decide +kernel
theorem dX0_fillByChance_132 : decode cX0_fillByChance 132 = .ok (.iinc 7 1, 3) := by decide +kernel
theorem dX0_fillByChance_135 : decode cX0_fillByChance 135 = .ok (.goto (-100), 3) := by decide +kernel
theorem dX0_fillByChance_138 : decode cX0_fillByChance 138 = .ok (.iinc 6 1, 3) := by decide +kernel
theorem dX0_fillByChance_141 : decode cX0_fillByChance 141 = .ok (.goto (-118), 3) := by decide +kernel
theorem dX0_fillByChance_144 : decode cX0_fillByChance 144 = .ok (.iload 5, 2) := by decide +kernel
theorem dX0_fillByChance_146 : decode cX0_fillByChance 146 = .ok (.ireturn, 1) := by decide +kernel
set_option maxRecDepth 20000 in
theorem ggX0_lastNoted_X0_member : GoodIn wsX0_lastNoted wsX0_member := goodIn_r _ [5, 6, 7, 8, 9, 4, 10, 11, 12, 13, 14, 15, 16, 17, 18, 19, 20, 21, 22] (by decide +kernel) (by decide +kernel)
set_option maxRecDepth 20000 in
theorem gX0_lastNoted_X0_member : GoodIn wsX0_lastNoted (wsV RX0 77 RX0 yX0_member wsX0_member) := goodIn_app (goodIn_of _ (by decide +kernel)) ggX0_lastNoted_X0_member
theorem dX0_lastNoted_0 : decode cX0_lastNoted 0 = .ok (.iload_n 1, 1) := by decide +kernel
theorem dX0_lastNoted_1 : decode cX0_lastNoted 1 = .ok (.iconst 1, 1) := by decide +kernel
theorem dX0_lastNoted_2 : decode cX0_lastNoted 2 = .ok (.isub, 1) := by decide +kernel
theorem dX0_lastNoted_3 : decode cX0_lastNoted 3 = .ok (.istore_n 3, 1) := by decide +kernel
theorem dX0_lastNoted_4 : decode cX0_lastNoted 4 = .ok (.iload_n 3, 1) := by decide +kernel
theorem dX0_lastNoted_5 : decode cX0_lastNoted 5 = .ok (.ifCond .lt 28, 3) := by decide +kernel
theorem dX0_lastNoted_8 : decode cX0_lastNoted 8 = .ok (.aload_n 0, 1) := by decide +kernel
theorem dX0_lastNoted_9 : decode cX0_lastNoted 9 = .ok (.iload_n 3, 1) := by decide +kernel
theorem dX0_lastNoted_10 : decode cX0_lastNoted 10 = .ok (.iload_n 2, 1) := by decide +kernel
theorem dX0_lastNoted_11 : decode cX0_lastNoted 11 = .ok (.invokevirtual 77, 3) := by decide +kernel
theorem dX0_lastNoted_14 : decode cX0_lastNoted 14 = .ok (.istore 4, 2) := by decide +kernel
theorem dX0_lastNoted_16 : decode cX0_lastNoted 16 = .ok (.iload 4, 2) := by decide +kernel
theorem dX0_lastNoted_18 : decode cX0_lastNoted 18 = .ok (.sipush (-10000), 3) := by decide +kernel
theorem dX0_lastNoted_21 : decode cX0_lastNoted 21 = .ok (.if_icmp .eq 6, 3) := by decide +kernel
theorem dX0_lastNoted_24 : decode cX0_lastNoted 24 = .ok (.iload 4, 2) := by decide +kernel
theorem dX0_lastNoted_26 : decode cX0_lastNoted 26 = .ok (.ireturn, 1) := by decide +kernel
theorem dX0_lastNoted_27 : decode cX0_lastNoted 27 = .ok (.iinc 3 (-1), 3) := by decide +kernel
theorem dX0_lastNoted_30 : decode cX0_lastNoted 30 = .ok (.goto (-26), 3) := by decide +kernel
theorem dX0_lastNoted_33 : decode cX0_lastNoted 33 = .ok (.iconst 0, 1) := by decide +kernel
theorem dX0_lastNoted_34 : decode cX0_lastNoted 34 = .ok (.ireturn, 1) := by decide +kernel
theorem dX1_init_0 : decode cX1_init 0 = .ok (.aload_n 0, 1) := by decide +kernel
theorem dX1_init_1 : decode cX1_init 1 = .ok (.invokespecial 3, 3) := by decide +kernel
theorem dX1_init_4 : decode cX1_init 4 = .ok (.aload_n 0, 1) := by decide +kernel
theorem dX1_init_5 : decode cX1_init 5 = .ok (.bipush 12, 2) := by decide +kernel
theorem dX1_init_7 : decode cX1_init 7 = .ok (.newarray .int, 2) := by decide +kernel
theorem dX1_init_9 : decode cX1_init 9 = .ok (.putfield 9, 3) := by decide +kernel
theorem dX1_init_12 : decode cX1_init 12 = .ok (.aload_n 0, 1) := by decide +kernel
theorem dX1_init_13 : decode cX1_init 13 = .ok (.bipush 12, 2) := by decide +kernel
theorem dX1_init_15 : decode cX1_init 15 = .ok (.newarray .float, 2) := by decide +kernel
theorem dX1_init_17 : decode cX1_init 17 = .ok (.putfield 15, 3) := by decide +kernel
theorem dX1_init_20 : decode cX1_init 20 = .ok (.aload_n 0, 1) := by decide +kernel
theorem dX1_init_21 : decode cX1_init 21 = .ok (.bipush 12, 2) := by decide +kernel
theorem dX1_init_23 : decode cX1_init 23 = .ok (.newarray .int, 2) := by decide +kernel
theorem dX1_init_25 : decode cX1_init 25 = .ok (.putfield 19, 3) := by decide +kernel
theorem dX1_init_28 : decode cX1_init 28 = .ok (.return_, 1) := by decide +kernel
set_option maxRecDepth 20000 in
theorem ggX1_gather_X2_nearOnes : GoodIn wsX1_gather wsX2_nearOnes := goodIn_r _ [6, 7, 8, 9, 10, 11, 12, 13, 14, 5, 15, 16, 57, 58, 59, 60, 61, 62, 63, 64, 65] (by decide +kernel) (by decide +kernel)
set_option maxRecDepth 20000 in
theorem gX1_gather_X2_nearOnes : GoodIn wsX1_gather (wsV RX1 26 RX2 yX2_nearOnes wsX2_nearOnes) := goodIn_app (goodIn_of _ (by decide +kernel)) ggX1_gather_X2_nearOnes
set_option maxRecDepth 20000 in
theorem ggX1_gather_X2_near : GoodIn wsX1_gather wsX2_near := goodIn_r _ [20, 7, 21, 12, 13, 14, 5, 15, 16, 57, 58, 59, 60, 61, 62, 63, 64, 65] (by decide +kernel) (by decide +kernel)
set_option maxRecDepth 20000 in
theorem gX1_gather_X2_near : GoodIn wsX1_gather (wsV RX1 32 RX2 yX2_near wsX2_near) := goodIn_app (goodIn_of _ (by decide +kernel)) ggX1_gather_X2_near
set_option maxRecDepth 20000 in
theorem ggX1_gather_X0_member : GoodIn wsX1_gather wsX0_member := goodIn_r _ [26, 27, 28, 29, 30, 25, 31, 32, 33, 34, 35, 36, 37, 38, 66, 67, 68, 69, 70] (by decide +kernel) (by decide +kernel)
set_option maxRecDepth 20000 in
theorem gX1_gather_X0_member : GoodIn wsX1_gather (wsV RX1 35 RX0 yX0_member wsX0_member) := goodIn_app (goodIn_of _ (by decide +kernel)) ggX1_gather_X0_member
set_option maxRecDepth 20000 in
theorem ggX1_gather_X2_between : GoodIn wsX1_gather wsX2_between := goodIn_r _ [42, 43, 44, 12, 13, 14, 5, 15, 16, 57, 58, 59, 60, 61, 62, 63, 64, 65] (by decide +kernel) (by decide +kernel)
set_option maxRecDepth 20000 in
theorem gX1_gather_X2_between : GoodIn wsX1_gather (wsV RX1 40 RX2 yX2_between wsX2_between) := goodIn_app (goodIn_of _ (by decide +kernel)) ggX1_gather_X2_between
set_option maxRecDepth 20000 in
theorem ggX1_gather_X1_add : GoodIn wsX1_gather wsX1_add := goodIn_r _ [49, 1, 50, 51, 52, 53, 54, 55, 56] (by decide +kernel) (by decide +kernel)
set_option maxRecDepth 20000 in
theorem gX1_gather_X1_add : GoodIn wsX1_gather (wsV RX1 44 RX1 yX1_add wsX1_add) := goodIn_app (goodIn_of _ (by decide +kernel)) ggX1_gather_X1_add
theorem dX1_gather_0 : decode cX1_gather 0 = .ok (.aload_n 0, 1) := by decide +kernel
theorem dX1_gather_1 : decode cX1_gather 1 = .ok (.iconst 0, 1) := by decide +kernel
theorem dX1_gather_2 : decode cX1_gather 2 = .ok (.putfield 22, 3) := by decide +kernel
theorem dX1_gather_5 : decode cX1_gather 5 = .ok (.iconst 0, 1) := by decide +kernel
theorem dX1_gather_6 : decode cX1_gather 6 = .ok (.istore 6, 2) := by decide +kernel
theorem dX1_gather_8 : decode cX1_gather 8 = .ok (.iload 6, 2) := by decide +kernel
theorem dX1_gather_10 : decode cX1_gather 10 = .ok (.aload_n 2, 1) := by decide +kernel
theorem dX1_gather_11 : decode cX1_gather 11 = .ok (.iload_n 3, 1) := by decide +kernel
theorem dX1_gather_12 : decode cX1_gather 12 = .ok (.iload 5, 2) := by decide +kernel
theorem dX1_gather_14 : decode cX1_gather 14 = .ok (.invokevirtual 26, 3) := by decide +kernel
theorem dX1_gather_17 : decode cX1_gather 17 = .ok (.if_icmp .ge 51, 3) := by decide +kernel
theorem dX1_gather_20 : decode cX1_gather 20 = .ok (.aload_n 2, 1) := by decide +kernel
theorem dX1_gather_21 : decode cX1_gather 21 = .ok (.iload_n 3, 1) := by decide +kernel
theorem dX1_gather_22 : decode cX1_gather 22 = .ok (.iload 6, 2) := by decide +kernel
theorem dX1_gather_24 : decode cX1_gather 24 = .ok (.invokevirtual 32, 3) := by decide +kernel
theorem dX1_gather_27 : decode cX1_gather 27 = .ok (.istore 7, 2) := by decide +kernel
theorem dX1_gather_29 : decode cX1_gather 29 = .ok (.aload_n 1, 1) := by decide +kernel
theorem dX1_gather_30 : decode cX1_gather 30 = .ok (.iload 7, 2) := by decide +kernel
theorem dX1_gather_32 : decode cX1_gather 32 = .ok (.iconst 1, 1) := by decide +kernel
theorem dX1_gather_33 : decode cX1_gather 33 = .ok (.iadd, 1) := by decide +kernel
theorem dX1_gather_34 : decode cX1_gather 34 = .ok (.iload 4, 2) := by decide +kernel
theorem dX1_gather_36 : decode cX1_gather 36 = .ok (.invokevirtual 35, 3) := by decide +kernel
theorem dX1_gather_39 : decode cX1_gather 39 = .ok (.istore 8, 2) := by decide +kernel
theorem dX1_gather_41 : decode cX1_gather 41 = .ok (.iload 8, 2) := by decide +kernel
theorem dX1_gather_43 : decode cX1_gather 43 = .ok (.sipush (-10000), 3) := by decide +kernel
theorem dX1_gather_46 : decode cX1_gather 46 = .ok (.if_icmp .eq 16, 3) := by decide +kernel
theorem dX1_gather_49 : decode cX1_gather 49 = .ok (.aload_n 0, 1) := by decide +kernel
theorem dX1_gather_50 : decode cX1_gather 50 = .ok (.iload 8, 2) := by decide +kernel
theorem dX1_gather_52 : decode cX1_gather 52 = .ok (.aload_n 2, 1) := by decide +kernel
theorem dX1_gather_53 : decode cX1_gather 53 = .ok (.iload_n 3, 1) := by decide +kernel
theorem dX1_gather_54 : decode cX1_gather 54 = .ok (.iload 7, 2) := by decide +kernel
theorem dX1_gather_56 : decode cX1_gather 56 = .ok (.invokevirtual 40, 3) := by decide +kernel
theorem dX1_gather_59 : decode cX1_gather 59 = .ok (.invokevirtual 44, 3) := by decide +kernel
theorem dX1_gather_62 : decode cX1_gather 62 = .ok (.iinc 6 1, 3) := by decide +kernel
theorem dX1_gather_65 : decode cX1_gather 65 = .ok (.goto (-57), 3) := by decide +kernel
theorem dX1_gather_68 : decode cX1_gather 68 = .ok (.return_, 1) := by decide +kernel
theorem dX1_size_0 : decode cX1_size 0 = .ok (.aload_n 0, 1) := by decide +kernel
theorem dX1_size_1 : decode cX1_size 1 = .ok (.getfield 22, 3) := by decide +kernel
theorem dX1_size_4 : decode cX1_size 4 = .ok (.ireturn, 1) := by decide +kernel
theorem dX1_spanSize_0 : decode cX1_spanSize 0 = .ok (.iconst 0, 1) := by decide +kernel
theorem dX1_spanSize_1 : decode cX1_spanSize 1 = .ok (.aload_n 0, 1) := by decide +kernel
theorem dX1_spanSize_2 : decode cX1_spanSize 2 = .ok (.getfield 22, 3) := by decide +kernel
theorem dX1_spanSize_5 : decode cX1_spanSize 5 = .ok (.iconst 2, 1) := by decide +kernel
theorem dX1_spanSize_6 : decode cX1_spanSize 6 = .ok (.iload_n 1, 1) := by decide +kernel
theorem dX1_spanSize_7 : decode cX1_spanSize 7 = .ok (.imul, 1) := by decide +kernel
theorem dX1_spanSize_8 : decode cX1_spanSize 8 = .ok (.isub, 1) := by decide +kernel
theorem dX1_spanSize_9 : decode cX1_spanSize 9 = .ok (.invokestatic 48, 3) := by decide +kernel
theorem dX1_spanSize_12 : decode cX1_spanSize 12 = .ok (.ireturn, 1) := by decide +kernel
set_option maxRecDepth 20000 in
theorem ggX1_least_X1_spanSize : GoodIn wsX1_least wsX1_spanSize := goodIn_r _ [6, 7, 8, 9, 10, 11, 12, 13, 14, 15] (by decide +kernel) (by decide +kernel)
set_option maxRecDepth 20000 in
theorem gX1_least_X1_spanSize : GoodIn wsX1_least (wsV RX1 53 RX1 yX1_spanSize wsX1_spanSize) := goodIn_app (goodIn_of _ (by decide +kernel)) ggX1_least_X1_spanSize
theorem dX1_least_0 : decode cX1_least 0 = .ok (.iload_n 1, 1) := by decide +kernel
theorem dX1_least_1 : decode cX1_least 1 = .ok (.ifCond .lt 20, 3) := by decide +kernel
theorem dX1_least_4 : decode cX1_least 4 = .ok (.aload_n 0, 1) := by decide +kernel
theorem dX1_least_5 : decode cX1_least 5 = .ok (.iload_n 1, 1) := by decide +kernel
theorem dX1_least_6 : decode cX1_least 6 = .ok (.invokevirtual 53, 3) := by decide +kernel
theorem dX1_least_9 : decode cX1_least 9 = .ok (.ifCond .le 12, 3) := by decide +kernel
theorem dX1_least_12 : decode cX1_least 12 = .ok (.aload_n 0, 1) := by decide +kernel
theorem dX1_least_13 : decode cX1_least 13 = .ok (.getfield 19, 3) := by decide +kernel
theorem dX1_least_16 : decode cX1_least 16 = .ok (.iload_n 1, 1) := by decide +kernel
theorem dX1_least_17 : decode cX1_least 17 = .ok (.iaload, 1) := by decide +kernel
theorem dX1_least_18 : decode cX1_least 18 = .ok (.goto 6, 3) := by decide +kernel
theorem dX1_least_21 : decode cX1_least 21 = .ok (.sipush (-10000), 3) := by decide +kernel
theorem dX1_least_24 : decode cX1_least 24 = .ok (.ireturn, 1) := by decide +kernel
set_option maxRecDepth 20000 in
theorem ggX1_greatest_X1_spanSize : GoodIn wsX1_greatest wsX1_spanSize := goodIn_r _ [7, 2, 8, 9, 10, 11, 12, 13, 14, 15] (by decide +kernel) (by decide +kernel)
set_option maxRecDepth 20000 in
theorem gX1_greatest_X1_spanSize : GoodIn wsX1_greatest (wsV RX1 53 RX1 yX1_spanSize wsX1_spanSize) := goodIn_app (goodIn_of _ (by decide +kernel)) ggX1_greatest_X1_spanSize
theorem dX1_greatest_0 : decode cX1_greatest 0 = .ok (.iload_n 1, 1) := by decide +kernel
theorem dX1_greatest_1 : decode cX1_greatest 1 = .ok (.ifCond .lt 27, 3) := by decide +kernel
theorem dX1_greatest_4 : decode cX1_greatest 4 = .ok (.aload_n 0, 1) := by decide +kernel
theorem dX1_greatest_5 : decode cX1_greatest 5 = .ok (.iload_n 1, 1) := by decide +kernel
theorem dX1_greatest_6 : decode cX1_greatest 6 = .ok (.invokevirtual 53, 3) := by decide +kernel
theorem dX1_greatest_9 : decode cX1_greatest 9 = .ok (.ifCond .le 19, 3) := by decide +kernel
theorem dX1_greatest_12 : decode cX1_greatest 12 = .ok (.aload_n 0, 1) := by decide +kernel
theorem dX1_greatest_13 : decode cX1_greatest 13 = .ok (.getfield 19, 3) := by decide +kernel
theorem dX1_greatest_16 : decode cX1_greatest 16 = .ok (.aload_n 0, 1) := by decide +kernel
theorem dX1_greatest_17 : decode cX1_greatest 17 = .ok (.getfield 22, 3) := by decide +kernel
theorem dX1_greatest_20 : decode cX1_greatest 20 = .ok (.iconst 1, 1) := by decide +kernel
theorem dX1_greatest_21 : decode cX1_greatest 21 = .ok (.isub, 1) := by decide +kernel
theorem dX1_greatest_22 : decode cX1_greatest 22 = .ok (.iload_n 1, 1) := by decide +kernel
theorem dX1_greatest_23 : decode cX1_greatest 23 = .ok (.isub, 1) := by decide +kernel
theorem dX1_greatest_24 : decode cX1_greatest 24 = .ok (.iaload, 1) := by decide +kernel
theorem dX1_greatest_25 : decode cX1_greatest 25 = .ok (.goto 6, 3) := by decide +kernel
theorem dX1_greatest_28 : decode cX1_greatest 28 = .ok (.sipush (-10000), 3) := by decide +kernel
theorem dX1_greatest_31 : decode cX1_greatest 31 = .ok (.ireturn, 1) := by decide +kernel
set_option maxRecDepth 20000 in
theorem ggX1_meanValue_X5_valueOf : GoodIn wsX1_meanValue wsX5_valueOf := goodIn_r _ [6, 7] (by decide +kernel) (by decide +kernel)
set_option maxRecDepth 20000 in
theorem gX1_meanValue_X5_valueOf_n57 : GoodIn wsX1_meanValue (wsX5_valueOf) := ggX1_meanValue_X5_valueOf
theorem dX1_meanValue_0 : decode cX1_meanValue 0 = .ok (.fconst 0, 1) := by decide +kernel
theorem dX1_meanValue_1 : decode cX1_meanValue 1 = .ok (.fstore_n 1, 1) := by decide +kernel
theorem dX1_meanValue_2 : decode cX1_meanValue 2 = .ok (.fconst 0, 1) := by decide +kernel
theorem dX1_meanValue_3 : decode cX1_meanValue 3 = .ok (.fstore_n 2, 1) := by decide +kernel
theorem dX1_meanValue_4 : decode cX1_meanValue 4 = .ok (.iconst 0, 1) := by decide +kernel
theorem dX1_meanValue_5 : decode cX1_meanValue 5 = .ok (.istore_n 3, 1) := by decide +kernel
theorem dX1_meanValue_6 : decode cX1_meanValue 6 = .ok (.iload_n 3, 1) := by decide +kernel
theorem dX1_meanValue_7 : decode cX1_meanValue 7 = .ok (.aload_n 0, 1) := by decide +kernel
theorem dX1_meanValue_8 : decode cX1_meanValue 8 = .ok (.getfield 22, 3) := by decide +kernel
theorem dX1_meanValue_11 : decode cX1_meanValue 11 = .ok (.if_icmp .ge 43, 3) := by decide +kernel
theorem dX1_meanValue_14 : decode cX1_meanValue 14 = .ok (.fload_n 1, 1) := by decide +kernel
theorem dX1_meanValue_15 : decode cX1_meanValue 15 = .ok (.aload_n 0, 1) := by decide +kernel
theorem dX1_meanValue_16 : decode cX1_meanValue 16 = .ok (.getfield 9, 3) := by decide +kernel
theorem dX1_meanValue_19 : decode cX1_meanValue 19 = .ok (.iload_n 3, 1) := by decide +kernel
theorem dX1_meanValue_20 : decode cX1_meanValue 20 = .ok (.iaload, 1) := by decide +kernel
theorem dX1_meanValue_21 : decode cX1_meanValue 21 = .ok (.invokestatic 57, 3) := by decide +kernel
theorem dX1_meanValue_24 : decode cX1_meanValue 24 = .ok (.fconst 1, 1) := by decide +kernel
theorem dX1_meanValue_25 : decode cX1_meanValue 25 = .ok (.aload_n 0, 1) := by decide +kernel
theorem dX1_meanValue_26 : decode cX1_meanValue 26 = .ok (.getfield 15, 3) := by decide +kernel
theorem dX1_meanValue_29 : decode cX1_meanValue 29 = .ok (.iload_n 3, 1) := by decide +kernel
theorem dX1_meanValue_30 : decode cX1_meanValue 30 = .ok (.faload, 1) := by decide +kernel
theorem dX1_meanValue_31 : decode cX1_meanValue 31 = .ok (.fadd, 1) := by decide +kernel
theorem dX1_meanValue_32 : decode cX1_meanValue 32 = .ok (.fdiv, 1) := by decide +kernel
theorem dX1_meanValue_33 : decode cX1_meanValue 33 = .ok (.fadd, 1) := by decide +kernel
theorem dX1_meanValue_34 : decode cX1_meanValue 34 = .ok (.fstore_n 1, 1) := by decide +kernel
theorem dX1_meanValue_35 : decode cX1_meanValue 35 = .ok (.fload_n 2, 1) := by decide +kernel
theorem dX1_meanValue_36 : decode cX1_meanValue 36 = .ok (.fconst 1, 1) := by decide +kernel
theorem dX1_meanValue_37 : decode cX1_meanValue 37 = .ok (.fconst 1, 1) := by decide +kernel
theorem dX1_meanValue_38 : decode cX1_meanValue 38 = .ok (.aload_n 0, 1) := by decide +kernel
theorem dX1_meanValue_39 : decode cX1_meanValue 39 = .ok (.getfield 15, 3) := by decide +kernel
theorem dX1_meanValue_42 : decode cX1_meanValue 42 = .ok (.iload_n 3, 1) := by decide +kernel
theorem dX1_meanValue_43 : decode cX1_meanValue 43 = .ok (.faload, 1) := by decide +kernel
theorem dX1_meanValue_44 : decode cX1_meanValue 44 = .ok (.fadd, 1) := by decide +kernel
theorem dX1_meanValue_45 : decode cX1_meanValue 45 = .ok (.fdiv, 1) := by decide +kernel
theorem dX1_meanValue_46 : decode cX1_meanValue 46 = .ok (.fadd, 1) := by decide +kernel
theorem dX1_meanValue_47 : decode cX1_meanValue 47 = .ok (.fstore_n 2, 1) := by decide +kernel
theorem dX1_meanValue_48 : decode cX1_meanValue 48 = .ok (.iinc 3 1, 3) := by decide +kernel
theorem dX1_meanValue_51 : decode cX1_meanValue 51 = .ok (.goto (-45), 3) := by decide +kernel
theorem dX1_meanValue_54 : decode cX1_meanValue 54 = .ok (.fload_n 2, 1) := by decide +kernel
theorem dX1_meanValue_55 : decode cX1_meanValue 55 = .ok (.fconst 0, 1) := by decide +kernel
theorem dX1_meanValue_56 : decode cX1_meanValue 56 = .ok (.fcmp .l, 1) := by decide +kernel
theorem dX1_meanValue_57 : decode cX1_meanValue 57 = .ok (.ifCond .le 9, 3) := by decide +kernel
theorem dX1_meanValue_60 : decode cX1_meanValue 60 = .ok (.fload_n 1, 1) := by decide +kernel
theorem dX1_meanValue_61 : decode cX1_meanValue 61 = .ok (.fload_n 2, 1) := by decide +kernel
theorem dX1_meanValue_62 : decode cX1_meanValue 62 = .ok (.fdiv, 1) := by decide +kernel
theorem dX1_meanValue_63 : decode cX1_meanValue 63 = .ok (.goto 4, 3) := by decide +kernel
theorem dX1_meanValue_66 : decode cX1_meanValue 66 = .ok (.fconst 0, 1) := by decide +kernel
theorem dX1_meanValue_67 : decode cX1_meanValue 67 = .ok (.freturn, 1) := by decide +kernel
set_option maxRecDepth 20000 in
theorem ggX1_spreadOfValues_X5_valueOf : GoodIn wsX1_spreadOfValues wsX5_valueOf := goodIn_r _ [5, 6] (by decide +kernel) (by decide +kernel)
set_option maxRecDepth 20000 in
theorem gX1_spreadOfValues_X5_valueOf_n57 : GoodIn wsX1_spreadOfValues (wsX5_valueOf) := ggX1_spreadOfValues_X5_valueOf
theorem dX1_spreadOfValues_0 : decode cX1_spreadOfValues 0 = .ok (.dconst 0, 1) := by decide +kernel
theorem dX1_spreadOfValues_1 : decode cX1_spreadOfValues 1 = .ok (.dstore_n 1, 1) := by decide +kernel
theorem dX1_spreadOfValues_2 : decode cX1_spreadOfValues 2 = .ok (.dconst 0, 1) := by decide +kernel
theorem dX1_spreadOfValues_3 : decode cX1_spreadOfValues 3 = .ok (.dstore_n 3, 1) := by decide +kernel
theorem dX1_spreadOfValues_4 : decode cX1_spreadOfValues 4 = .ok (.iconst 0, 1) := by decide +kernel
theorem dX1_spreadOfValues_5 : decode cX1_spreadOfValues 5 = .ok (.istore 5, 2) := by decide +kernel
theorem dX1_spreadOfValues_7 : decode cX1_spreadOfValues 7 = .ok (.iload 5, 2) := by decide +kernel
theorem dX1_spreadOfValues_9 : decode cX1_spreadOfValues 9 = .ok (.aload_n 0, 1) := by decide +kernel
theorem dX1_spreadOfValues_10 : decode cX1_spreadOfValues 10 = .ok (.getfield 22, 3) := by decide +kernel
theorem dX1_spreadOfValues_13 : decode cX1_spreadOfValues 13 = .ok (.if_icmp .ge 35, 3) := by decide +kernel
theorem dX1_spreadOfValues_16 : decode cX1_spreadOfValues 16 = .ok (.aload_n 0, 1) := by decide +kernel
theorem dX1_spreadOfValues_17 : decode cX1_spreadOfValues 17 = .ok (.getfield 9, 3) := by decide +kernel
theorem dX1_spreadOfValues_20 : decode cX1_spreadOfValues 20 = .ok (.iload 5, 2) := by decide +kernel
theorem dX1_spreadOfValues_22 : decode cX1_spreadOfValues 22 = .ok (.iaload, 1) := by decide +kernel
theorem dX1_spreadOfValues_23 : decode cX1_spreadOfValues 23 = .ok (.invokestatic 57, 3) := by decide +kernel
theorem dX1_spreadOfValues_26 : decode cX1_spreadOfValues 26 = .ok (.f2d, 1) := by decide +kernel
theorem dX1_spreadOfValues_27 : decode cX1_spreadOfValues 27 = .ok (.dstore 6, 2) := by decide +kernel
theorem dX1_spreadOfValues_29 : decode cX1_spreadOfValues 29 = .ok (.dload_n 1, 1) := by decide +kernel
theorem dX1_spreadOfValues_30 : decode cX1_spreadOfValues 30 = .ok (.dload 6, 2) := by decide +kernel
theorem dX1_spreadOfValues_32 : decode cX1_spreadOfValues 32 = .ok (.dadd, 1) := by decide +kernel
theorem dX1_spreadOfValues_33 : decode cX1_spreadOfValues 33 = .ok (.dstore_n 1, 1) := by decide +kernel
theorem dX1_spreadOfValues_34 : decode cX1_spreadOfValues 34 = .ok (.dload_n 3, 1) := by decide +kernel
theorem dX1_spreadOfValues_35 : decode cX1_spreadOfValues 35 = .ok (.dload 6, 2) := by decide +kernel
theorem dX1_spreadOfValues_37 : decode cX1_spreadOfValues 37 = .ok (.dload 6, 2) := by decide +kernel
theorem dX1_spreadOfValues_39 : decode cX1_spreadOfValues 39 = .ok (.dmul, 1) := by decide +kernel
theorem dX1_spreadOfValues_40 : decode cX1_spreadOfValues 40 = .ok (.dadd, 1) := by decide +kernel
theorem dX1_spreadOfValues_41 : decode cX1_spreadOfValues 41 = .ok (.dstore_n 3, 1) := by decide +kernel
theorem dX1_spreadOfValues_42 : decode cX1_spreadOfValues 42 = .ok (.iinc 5 1, 3) := by decide +kernel
theorem dX1_spreadOfValues_45 : decode cX1_spreadOfValues 45 = .ok (.goto (-38), 3) := by decide +kernel
theorem dX1_spreadOfValues_48 : decode cX1_spreadOfValues 48 = .ok (.aload_n 0, 1) := by decide +kernel
theorem dX1_spreadOfValues_49 : decode cX1_spreadOfValues 49 = .ok (.getfield 22, 3) := by decide +kernel
theorem dX1_spreadOfValues_52 : decode cX1_spreadOfValues 52 = .ok (.i2d, 1) := by decide +kernel
theorem dX1_spreadOfValues_53 : decode cX1_spreadOfValues 53 = .ok (.dstore 5, 2) := by decide +kernel
theorem dX1_spreadOfValues_55 : decode cX1_spreadOfValues 55 = .ok (.aload_n 0, 1) := by decide +kernel
theorem dX1_spreadOfValues_56 : decode cX1_spreadOfValues 56 = .ok (.getfield 22, 3) := by decide +kernel
theorem dX1_spreadOfValues_59 : decode cX1_spreadOfValues 59 = .ok (.ifCond .le 20, 3) := by decide +kernel
theorem dX1_spreadOfValues_62 : decode cX1_spreadOfValues 62 = .ok (.dload_n 3, 1) := by decide +kernel
theorem dX1_spreadOfValues_63 : decode cX1_spreadOfValues 63 = .ok (.dload 5, 2) := by decide +kernel
theorem dX1_spreadOfValues_65 : decode cX1_spreadOfValues 65 = .ok (.ddiv, 1) := by decide +kernel
theorem dX1_spreadOfValues_66 : decode cX1_spreadOfValues 66 = .ok (.dload_n 1, 1) := by decide +kernel
theorem dX1_spreadOfValues_67 : decode cX1_spreadOfValues 67 = .ok (.dload 5, 2) := by decide +kernel
theorem dX1_spreadOfValues_69 : decode cX1_spreadOfValues 69 = .ok (.ddiv, 1) := by decide +kernel
theorem dX1_spreadOfValues_70 : decode cX1_spreadOfValues 70 = .ok (.dload_n 1, 1) := by decide +kernel
theorem dX1_spreadOfValues_71 : decode cX1_spreadOfValues 71 = .ok (.dload 5, 2) := by decide +kernel
theorem dX1_spreadOfValues_73 : decode cX1_spreadOfValues 73 = .ok (.ddiv, 1) := by decide +kernel
theorem dX1_spreadOfValues_74 : decode cX1_spreadOfValues 74 = .ok (.dmul, 1) := by decide +kernel
theorem dX1_spreadOfValues_75 : decode cX1_spreadOfValues 75 = .ok (.dsub, 1) := by decide +kernel
theorem dX1_spreadOfValues_76 : decode cX1_spreadOfValues 76 = .ok (.goto 4, 3) := by decide +kernel
theorem dX1_spreadOfValues_79 : decode cX1_spreadOfValues 79 = .ok (.dconst 0, 1) := by decide +kernel
theorem dX1_spreadOfValues_80 : decode cX1_spreadOfValues 80 = .ok (.dreturn, 1) := by decide +kernel
theorem dX1_add_0 : decode cX1_add 0 = .ok (.aload_n 0, 1) := by decide +kernel
theorem dX1_add_1 : decode cX1_add 1 = .ok (.getfield 22, 3) := by decide +kernel
theorem dX1_add_4 : decode cX1_add 4 = .ok (.bipush 12, 2) := by decide +kernel
theorem dX1_add_6 : decode cX1_add 6 = .ok (.if_icmp .ge 81, 3) := by decide +kernel
theorem dX1_add_9 : decode cX1_add 9 = .ok (.aload_n 0, 1) := by decide +kernel
theorem dX1_add_10 : decode cX1_add 10 = .ok (.getfield 9, 3) := by decide +kernel
theorem dX1_add_13 : decode cX1_add 13 = .ok (.aload_n 0, 1) := by decide +kernel
theorem dX1_add_14 : decode cX1_add 14 = .ok (.getfield 22, 3) := by decide +kernel
theorem dX1_add_17 : decode cX1_add 17 = .ok (.iload_n 1, 1) := by decide +kernel
theorem dX1_add_18 : decode cX1_add 18 = .ok (.iastore, 1) := by decide +kernel
theorem dX1_add_19 : decode cX1_add 19 = .ok (.aload_n 0, 1) := by decide +kernel
theorem dX1_add_20 : decode cX1_add 20 = .ok (.getfield 15, 3) := by decide +kernel
theorem dX1_add_23 : decode cX1_add 23 = .ok (.aload_n 0, 1) := by decide +kernel
theorem dX1_add_24 : decode cX1_add 24 = .ok (.getfield 22, 3) := by decide +kernel
theorem dX1_add_27 : decode cX1_add 27 = .ok (.fload_n 2, 1) := by decide +kernel
theorem dX1_add_28 : decode cX1_add 28 = .ok (.fastore, 1) := by decide +kernel
theorem dX1_add_29 : decode cX1_add 29 = .ok (.aload_n 0, 1) := by decide +kernel
theorem dX1_add_30 : decode cX1_add 30 = .ok (.getfield 22, 3) := by decide +kernel
theorem dX1_add_33 : decode cX1_add 33 = .ok (.istore_n 3, 1) := by decide +kernel
theorem dX1_add_34 : decode cX1_add 34 = .ok (.iload_n 3, 1) := by decide +kernel
theorem dX1_add_35 : decode cX1_add 35 = .ok (.ifCond .le 35, 3) := by decide +kernel
theorem dX1_add_38 : decode cX1_add 38 = .ok (.iload_n 1, 1) := by decide +kernel
theorem dX1_add_39 : decode cX1_add 39 = .ok (.aload_n 0, 1) := by decide +kernel
theorem dX1_add_40 : decode cX1_add 40 = .ok (.getfield 19, 3) := by decide +kernel
theorem dX1_add_43 : decode cX1_add 43 = .ok (.iload_n 3, 1) := by decide +kernel
theorem dX1_add_44 : decode cX1_add 44 = .ok (.iconst 1, 1) := by decide +kernel
theorem dX1_add_45 : decode cX1_add 45 = .ok (.isub, 1) := by decide +kernel
theorem dX1_add_46 : decode cX1_add 46 = .ok (.iaload, 1) := by decide +kernel
theorem dX1_add_47 : decode cX1_add 47 = .ok (.if_icmp .ge 23, 3) := by decide +kernel
theorem dX1_add_50 : decode cX1_add 50 = .ok (.aload_n 0, 1) := by decide +kernel
theorem dX1_add_51 : decode cX1_add 51 = .ok (.getfield 19, 3) := by decide +kernel
theorem dX1_add_54 : decode cX1_add 54 = .ok (.iload_n 3, 1) := by decide +kernel
theorem dX1_add_55 : decode cX1_add 55 = .ok (.aload_n 0, 1) := by decide +kernel
theorem dX1_add_56 : decode cX1_add 56 = .ok (.getfield 19, 3) := by decide +kernel
theorem dX1_add_59 : decode cX1_add 59 = .ok (.iload_n 3, 1) := by decide +kernel
theorem dX1_add_60 : decode cX1_add 60 = .ok (.iconst 1, 1) := by decide +kernel
theorem dX1_add_61 : decode cX1_add 61 = .ok (.isub, 1) := by decide +kernel
theorem dX1_add_62 : decode cX1_add 62 = .ok (.iaload, 1) := by decide +kernel
theorem dX1_add_63 : decode cX1_add 63 = .ok (.iastore, 1) := by decide +kernel
theorem dX1_add_64 : decode cX1_add 64 = .ok (.iinc 3 (-1), 3) := by decide +kernel
theorem dX1_add_67 : decode cX1_add 67 = .ok (.goto (-33), 3) := by decide +kernel
theorem dX1_add_70 : decode cX1_add 70 = .ok (.aload_n 0, 1) := by decide +kernel
theorem dX1_add_71 : decode cX1_add 71 = .ok (.getfield 19, 3) := by decide +kernel
theorem dX1_add_74 : decode cX1_add 74 = .ok (.iload_n 3, 1) := by decide +kernel
theorem dX1_add_75 : decode cX1_add 75 = .ok (.iload_n 1, 1) := by decide +kernel
theorem dX1_add_76 : decode cX1_add 76 = .ok (.iastore, 1) := by decide +kernel
theorem dX1_add_77 : decode cX1_add 77 = .ok (.aload_n 0, 1) := by decide +kernel
theorem dX1_add_78 : decode cX1_add 78 = .ok (.dup, 1) := by decide +kernel
theorem dX1_add_79 : decode cX1_add 79 = .ok (.getfield 22, 3) := by decide +kernel
theorem dX1_add_82 : decode cX1_add 82 = .ok (.iconst 1, 1) := by decide +kernel
theorem dX1_add_83 : decode cX1_add 83 = .ok (.iadd, 1) := by decide +kernel
theorem dX1_add_84 : decode cX1_add 84 = .ok (.putfield 22, 3) := by decide +kernel
theorem dX1_add_87 : decode cX1_add 87 = .ok (.return_, 1) := by decide +kernel
theorem dX2_init_0 : decode cX2_init 0 = .ok (.aload_n 0, 1) := by decide +kernel
theorem dX2_init_1 : decode cX2_init 1 = .ok (.invokespecial 3, 3) := by decide +kernel
theorem dX2_init_4 : decode cX2_init 4 = .ok (.aload_n 0, 1) := by decide +kernel
theorem dX2_init_5 : decode cX2_init 5 = .ok (.sipush 200, 3) := by decide +kernel
theorem dX2_init_8 : decode cX2_init 8 = .ok (.newarray .float, 2) := by decide +kernel
theorem dX2_init_10 : decode cX2_init 10 = .ok (.putfield 9, 3) := by decide +kernel
theorem dX2_init_13 : decode cX2_init 13 = .ok (.aload_n 0, 1) := by decide +kernel
theorem dX2_init_14 : decode cX2_init 14 = .ok (.sipush 200, 3) := by decide +kernel
theorem dX2_init_17 : decode cX2_init 17 = .ok (.newarray .boolean, 2) := by decide +kernel
theorem dX2_init_19 : decode cX2_init 19 = .ok (.putfield 15, 3) := by decide +kernel
theorem dX2_init_22 : decode cX2_init 22 = .ok (.aload_n 0, 1) := by decide +kernel
theorem dX2_init_23 : decode cX2_init 23 = .ok (.iconst 4, 1) := by decide +kernel
theorem dX2_init_24 : decode cX2_init 24 = .ok (.newarray .float, 2) := by decide +kernel
theorem dX2_init_26 : decode cX2_init 26 = .ok (.putfield 19, 3) := by decide +kernel
theorem dX2_init_29 : decode cX2_init 29 = .ok (.aload_n 0, 1) := by decide +kernel
theorem dX2_init_30 : decode cX2_init 30 = .ok (.sipush 2500, 3) := by decide +kernel
theorem dX2_init_33 : decode cX2_init 33 = .ok (.newarray .float, 2) := by decide +kernel
theorem dX2_init_35 : decode cX2_init 35 = .ok (.putfield 22, 3) := by decide +kernel
theorem dX2_init_38 : decode cX2_init 38 = .ok (.aload_n 0, 1) := by decide +kernel
theorem dX2_init_39 : decode cX2_init 39 = .ok (.sipush 600, 3) := by decide +kernel
theorem dX2_init_42 : decode cX2_init 42 = .ok (.newarray .int, 2) := by decide +kernel
theorem dX2_init_44 : decode cX2_init 44 = .ok (.putfield 25, 3) := by decide +kernel
theorem dX2_init_47 : decode cX2_init 47 = .ok (.aload_n 0, 1) := by decide +kernel
theorem dX2_init_48 : decode cX2_init 48 = .ok (.bipush 50, 2) := by decide +kernel
theorem dX2_init_50 : decode cX2_init 50 = .ok (.newarray .int, 2) := by decide +kernel
theorem dX2_init_52 : decode cX2_init 52 = .ok (.putfield 29, 3) := by decide +kernel
theorem dX2_init_55 : decode cX2_init 55 = .ok (.aload_n 0, 1) := by decide +kernel
theorem dX2_init_56 : decode cX2_init 56 = .ok (.bipush 50, 2) := by decide +kernel
theorem dX2_init_58 : decode cX2_init 58 = .ok (.newarray .int, 2) := by decide +kernel
theorem dX2_init_60 : decode cX2_init 60 = .ok (.putfield 32, 3) := by decide +kernel
theorem dX2_init_63 : decode cX2_init 63 = .ok (.aload_n 0, 1) := by decide +kernel
theorem dX2_init_64 : decode cX2_init 64 = .ok (.bipush (-2), 2) := by decide +kernel
theorem dX2_init_66 : decode cX2_init 66 = .ok (.putfield 35, 3) := by decide +kernel
theorem dX2_init_69 : decode cX2_init 69 = .ok (.return_, 1) := by decide +kernel
theorem dX2_forget_0 : decode cX2_forget 0 = .ok (.aload_n 0, 1) := by decide +kernel
theorem dX2_forget_1 : decode cX2_forget 1 = .ok (.bipush (-2), 2) := by decide +kernel
theorem dX2_forget_3 : decode cX2_forget 3 = .ok (.putfield 35, 3) := by decide +kernel
theorem dX2_forget_6 : decode cX2_forget 6 = .ok (.return_, 1) := by decide +kernel
set_option maxRecDepth 20000 in
theorem ggX2_learn_X0_days : GoodIn wsX2_learn wsX0_days := goodIn_r _ [14, 15, 88, 89, 90, 91, 92] (by decide +kernel) (by decide +kernel)
set_option maxRecDepth 20000 in
theorem gX2_learn_X0_days : GoodIn wsX2_learn (wsV RX2 39 RX0 yX0_days wsX0_days) := goodIn_app (goodIn_of _ (by decide +kernel)) ggX2_learn_X0_days
set_option maxRecDepth 20000 in
theorem ggX2_learn_X2_takeNotes : GoodIn wsX2_learn wsX2_takeNotes := goodIn_r _ [20, 6, 21, 22, 23, 24, 25, 13, 26, 27, 28, 29, 30, 31, 15, 32, 33, 34, 35, 36, 37, 38, 39, 40, 79, 80, 81, 82, 83, 84, 85, 86, 87, 88, 89, 90, 91, 92] (by decide +kernel) (by decide +kernel)
set_option maxRecDepth 20000 in
theorem gX2_learn_X2_takeNotes : GoodIn wsX2_learn (wsV RX2 53 RX2 yX2_takeNotes wsX2_takeNotes) := goodIn_app (goodIn_of _ (by decide +kernel)) ggX2_learn_X2_takeNotes
set_option maxRecDepth 20000 in
theorem ggX2_learn_X0_rule : GoodIn wsX2_learn wsX0_rule := goodIn_r _ [44, 45, 46, 47, 32, 33, 34, 35, 36, 37, 88, 89, 90, 91, 92] (by decide +kernel) (by decide +kernel)
set_option maxRecDepth 20000 in
theorem gX2_learn_X0_rule : GoodIn wsX2_learn (wsV RX2 57 RX0 yX0_rule wsX0_rule) := goodIn_app (goodIn_of _ (by decide +kernel)) ggX2_learn_X0_rule
set_option maxRecDepth 20000 in
theorem ggX2_learn_X2_measure : GoodIn wsX2_learn wsX2_measure := goodIn_r _ [51, 21, 7, 22, 52, 79, 80, 81, 82, 83, 84, 85, 86, 87] (by decide +kernel) (by decide +kernel)
set_option maxRecDepth 20000 in
theorem gX2_learn_X2_measure : GoodIn wsX2_learn (wsV RX2 62 RX2 yX2_measure wsX2_measure) := goodIn_app (goodIn_of _ (by decide +kernel)) ggX2_learn_X2_measure
set_option maxRecDepth 20000 in
theorem ggX2_learn_X0_gap : GoodIn wsX2_learn wsX0_gap := goodIn_r _ [56, 45, 88, 89, 90, 91, 92] (by decide +kernel) (by decide +kernel)
set_option maxRecDepth 20000 in
theorem gX2_learn_X0_gap : GoodIn wsX2_learn (wsV RX2 66 RX0 yX0_gap wsX0_gap) := goodIn_app (goodIn_of _ (by decide +kernel)) ggX2_learn_X0_gap
set_option maxRecDepth 20000 in
theorem ggX2_learn_X2_rank : GoodIn wsX2_learn wsX2_rank := goodIn_r _ [60, 6, 61, 62, 4, 63, 9, 64, 65, 66, 67, 68, 19, 69, 70, 2, 3, 5, 71, 72, 73, 74, 52, 75, 76, 77, 78, 79, 80, 81, 82, 83, 84, 85, 86, 87] (by decide +kernel) (by decide +kernel)
set_option maxRecDepth 20000 in
theorem gX2_learn_X2_rank : GoodIn wsX2_learn (wsV RX2 69 RX2 yX2_rank wsX2_rank) := goodIn_app (goodIn_of _ (by decide +kernel)) ggX2_learn_X2_rank
theorem dX2_learn_0 : decode cX2_learn 0 = .ok (.aload_n 0, 1) := by decide +kernel
theorem dX2_learn_1 : decode cX2_learn 1 = .ok (.getfield 35, 3) := by decide +kernel
theorem dX2_learn_4 : decode cX2_learn 4 = .ok (.iload_n 2, 1) := by decide +kernel
theorem dX2_learn_5 : decode cX2_learn 5 = .ok (.if_icmp .ne 4, 3) := by decide +kernel
theorem dX2_learn_8 : decode cX2_learn 8 = .ok (.return_, 1) := by decide +kernel
theorem dX2_learn_9 : decode cX2_learn 9 = .ok (.aload_n 0, 1) := by decide +kernel
theorem dX2_learn_10 : decode cX2_learn 10 = .ok (.iload_n 2, 1) := by decide +kernel
theorem dX2_learn_11 : decode cX2_learn 11 = .ok (.putfield 35, 3) := by decide +kernel
theorem dX2_learn_14 : decode cX2_learn 14 = .ok (.aload_n 0, 1) := by decide +kernel
theorem dX2_learn_15 : decode cX2_learn 15 = .ok (.aload_n 1, 1) := by decide +kernel
theorem dX2_learn_16 : decode cX2_learn 16 = .ok (.invokevirtual 39, 3) := by decide +kernel
theorem dX2_learn_19 : decode cX2_learn 19 = .ok (.bipush 50, 2) := by decide +kernel
theorem dX2_learn_21 : decode cX2_learn 21 = .ok (.invokestatic 45, 3) := by decide +kernel
theorem dX2_learn_24 : decode cX2_learn 24 = .ok (.putfield 51, 3) := by decide +kernel
theorem dX2_learn_27 : decode cX2_learn 27 = .ok (.aload_n 0, 1) := by decide +kernel
theorem dX2_learn_28 : decode cX2_learn 28 = .ok (.aload_n 1, 1) := by decide +kernel
theorem dX2_learn_29 : decode cX2_learn 29 = .ok (.invokevirtual 53, 3) := by decide +kernel
theorem dX2_learn_32 : decode cX2_learn 32 = .ok (.iconst 0, 1) := by decide +kernel
theorem dX2_learn_33 : decode cX2_learn 33 = .ok (.istore_n 3, 1) := by decide +kernel
theorem dX2_learn_34 : decode cX2_learn 34 = .ok (.iload_n 3, 1) := by decide +kernel
theorem dX2_learn_35 : decode cX2_learn 35 = .ok (.iconst 4, 1) := by decide +kernel
theorem dX2_learn_36 : decode cX2_learn 36 = .ok (.if_icmp .ge 33, 3) := by decide +kernel
theorem dX2_learn_39 : decode cX2_learn 39 = .ok (.aload_n 0, 1) := by decide +kernel
theorem dX2_learn_40 : decode cX2_learn 40 = .ok (.getfield 19, 3) := by decide +kernel
theorem dX2_learn_43 : decode cX2_learn 43 = .ok (.iload_n 3, 1) := by decide +kernel
theorem dX2_learn_44 : decode cX2_learn 44 = .ok (.iload_n 3, 1) := by decide +kernel
theorem dX2_learn_45 : decode cX2_learn 45 = .ok (.iload_n 2, 1) := by decide +kernel
theorem dX2_learn_46 : decode cX2_learn 46 = .ok (.if_icmp .ne 7, 3) := by decide +kernel
theorem dX2_learn_49 : decode cX2_learn 49 = .ok (.fconst 0, 1) := by decide +kernel
theorem dX2_learn_50 : decode cX2_learn 50 = .ok (.goto 12, 3) := by decide +kernel
theorem dX2_learn_53 : decode cX2_learn 53 = .ok (.aload_n 1, 1) := by decide +kernel
theorem dX2_learn_54 : decode cX2_learn 54 = .ok (.iload_n 3, 1) := by decide +kernel
theorem dX2_learn_55 : decode cX2_learn 55 = .ok (.invokevirtual 57, 3) := by decide +kernel
theorem dX2_learn_58 : decode cX2_learn 58 = .ok (.i2f, 1) := by decide +kernel
theorem dX2_learn_59 : decode cX2_learn 59 = .ok (.ldc 61, 2) := by decide +kernel
theorem dX2_learn_61 : decode cX2_learn 61 = .ok (.fdiv, 1) := by decide +kernel
theorem dX2_learn_62 : decode cX2_learn 62 = .ok (.fastore, 1) := by decide +kernel
theorem dX2_learn_63 : decode cX2_learn 63 = .ok (.iinc 3 1, 3) := by decide +kernel
theorem dX2_learn_66 : decode cX2_learn 66 = .ok (.goto (-32), 3) := by decide +kernel
theorem dX2_learn_69 : decode cX2_learn 69 = .ok (.iconst 0, 1) := by decide +kernel
theorem dX2_learn_70 : decode cX2_learn 70 = .ok (.istore_n 3, 1) := by decide +kernel
theorem dX2_learn_71 : decode cX2_learn 71 = .ok (.iload_n 3, 1) := by decide +kernel
theorem dX2_learn_72 : decode cX2_learn 72 = .ok (.aload_n 0, 1) := by decide +kernel
theorem dX2_learn_73 : decode cX2_learn 73 = .ok (.getfield 51, 3) := by decide +kernel
theorem dX2_learn_76 : decode cX2_learn 76 = .ok (.if_icmp .ge 66, 3) := by decide +kernel
theorem dX2_learn_79 : decode cX2_learn 79 = .ok (.iload_n 3, 1) := by decide +kernel
theorem dX2_learn_80 : decode cX2_learn 80 = .ok (.iconst 1, 1) := by decide +kernel
theorem dX2_learn_81 : decode cX2_learn 81 = .ok (.iadd, 1) := by decide +kernel
theorem dX2_learn_82 : decode cX2_learn 82 = .ok (.istore 4, 2) := by decide +kernel
theorem dX2_learn_84 : decode cX2_learn 84 = .ok (.iload 4, 2) := by decide +kernel
theorem dX2_learn_86 : decode cX2_learn 86 = .ok (.aload_n 0, 1) := by decide +kernel
theorem dX2_learn_87 : decode cX2_learn 87 = .ok (.getfield 51, 3) := by decide +kernel
theorem dX2_learn_90 : decode cX2_learn 90 = .ok (.if_icmp .ge 46, 3) := by decide +kernel
theorem dX2_learn_93 : decode cX2_learn 93 = .ok (.aload_n 0, 1) := by decide +kernel
theorem dX2_learn_94 : decode cX2_learn 94 = .ok (.iload_n 3, 1) := by decide +kernel
theorem dX2_learn_95 : decode cX2_learn 95 = .ok (.iload 4, 2) := by decide +kernel
theorem dX2_learn_97 : decode cX2_learn 97 = .ok (.invokevirtual 62, 3) := by decide +kernel
theorem dX2_learn_100 : decode cX2_learn 100 = .ok (.fstore 5, 2) := by decide +kernel
theorem dX2_learn_102 : decode cX2_learn 102 = .ok (.aload_n 0, 1) := by decide +kernel
theorem dX2_learn_103 : decode cX2_learn 103 = .ok (.getfield 22, 3) := by decide +kernel
theorem dX2_learn_106 : decode cX2_learn 106 = .ok (.iload_n 3, 1) := by decide +kernel
theorem dX2_learn_107 : decode cX2_learn 107 = .ok (.bipush 50, 2) := by decide +kernel
theorem dX2_learn_109 : decode cX2_learn 109 = .ok (.imul, 1) := by decide +kernel
theorem dX2_learn_110 : decode cX2_learn 110 = .ok (.iload 4, 2) := by decide +kernel
theorem dX2_learn_112 : decode cX2_learn 112 = .ok (.iadd, 1) := by decide +kernel
theorem dX2_learn_113 : decode cX2_learn 113 = .ok (.fload 5, 2) := by decide +kernel
theorem dX2_learn_115 : decode cX2_learn 115 = .ok (.fastore, 1) := by decide +kernel
theorem dX2_learn_116 : decode cX2_learn 116 = .ok (.aload_n 0, 1) := by decide +kernel
theorem dX2_learn_117 : decode cX2_learn 117 = .ok (.getfield 22, 3) := by decide +kernel
theorem dX2_learn_120 : decode cX2_learn 120 = .ok (.iload 4, 2) := by decide +kernel
theorem dX2_learn_122 : decode cX2_learn 122 = .ok (.bipush 50, 2) := by decide +kernel
theorem dX2_learn_124 : decode cX2_learn 124 = .ok (.imul, 1) := by decide +kernel
theorem dX2_learn_125 : decode cX2_learn 125 = .ok (.iload_n 3, 1) := by decide +kernel
theorem dX2_learn_126 : decode cX2_learn 126 = .ok (.iadd, 1) := by decide +kernel
theorem dX2_learn_127 : decode cX2_learn 127 = .ok (.fload 5, 2) := by decide +kernel
theorem dX2_learn_129 : decode cX2_learn 129 = .ok (.fastore, 1) := by decide +kernel
theorem dX2_learn_130 : decode cX2_learn 130 = .ok (.iinc 4 1, 3) := by decide +kernel
theorem dX2_learn_133 : decode cX2_learn 133 = .ok (.goto (-49), 3) := by decide +kernel
theorem dX2_learn_136 : decode cX2_learn 136 = .ok (.iinc 3 1, 3) := by decide +kernel
theorem dX2_learn_139 : decode cX2_learn 139 = .ok (.goto (-68), 3) := by decide +kernel
theorem dX2_learn_142 : decode cX2_learn 142 = .ok (.iconst 0, 1) := by decide +kernel
theorem dX2_learn_143 : decode cX2_learn 143 = .ok (.istore_n 3, 1) := by decide +kernel
theorem dX2_learn_144 : decode cX2_learn 144 = .ok (.iload_n 3, 1) := by decide +kernel
theorem dX2_learn_145 : decode cX2_learn 145 = .ok (.aload_n 0, 1) := by decide +kernel
theorem dX2_learn_146 : decode cX2_learn 146 = .ok (.getfield 51, 3) := by decide +kernel
theorem dX2_learn_149 : decode cX2_learn 149 = .ok (.if_icmp .ge 18, 3) := by decide +kernel
theorem dX2_learn_152 : decode cX2_learn 152 = .ok (.aload_n 0, 1) := by decide +kernel
theorem dX2_learn_153 : decode cX2_learn 153 = .ok (.iload_n 3, 1) := by decide +kernel
theorem dX2_learn_154 : decode cX2_learn 154 = .ok (.aload_n 1, 1) := by decide +kernel
theorem dX2_learn_155 : decode cX2_learn 155 = .ok (.invokevirtual 66, 3) := by decide +kernel
theorem dX2_learn_158 : decode cX2_learn 158 = .ok (.invokevirtual 69, 3) := by decide +kernel
theorem dX2_learn_161 : decode cX2_learn 161 = .ok (.iinc 3 1, 3) := by decide +kernel
theorem dX2_learn_164 : decode cX2_learn 164 = .ok (.goto (-20), 3) := by decide +kernel
theorem dX2_learn_167 : decode cX2_learn 167 = .ok (.return_, 1) := by decide +kernel
set_option maxRecDepth 20000 in
theorem ggX2_between_X2_has : GoodIn wsX2_between wsX2_has := goodIn_r _ [7, 8, 9, 10, 11, 12, 13, 14, 15, 16, 17] (by decide +kernel) (by decide +kernel)
set_option maxRecDepth 20000 in
theorem gX2_between_X2_has : GoodIn wsX2_between (wsV RX2 73 RX2 yX2_has wsX2_has) := goodIn_app (goodIn_of _ (by decide +kernel)) ggX2_between_X2_has
theorem dX2_between_0 : decode cX2_between 0 = .ok (.aload_n 0, 1) := by decide +kernel
theorem dX2_between_1 : decode cX2_between 1 = .ok (.iload_n 1, 1) := by decide +kernel
theorem dX2_between_2 : decode cX2_between 2 = .ok (.invokevirtual 73, 3) := by decide +kernel
theorem dX2_between_5 : decode cX2_between 5 = .ok (.ifCond .eq 30, 3) := by decide +kernel
theorem dX2_between_8 : decode cX2_between 8 = .ok (.aload_n 0, 1) := by decide +kernel
theorem dX2_between_9 : decode cX2_between 9 = .ok (.iload_n 2, 1) := by decide +kernel
theorem dX2_between_10 : decode cX2_between 10 = .ok (.invokevirtual 73, 3) := by decide +kernel
theorem dX2_between_13 : decode cX2_between 13 = .ok (.ifCond .eq 22, 3) := by decide +kernel
theorem dX2_between_16 : decode cX2_between 16 = .ok (.iload_n 1, 1) := by decide +kernel
theorem dX2_between_17 : decode cX2_between 17 = .ok (.iload_n 2, 1) := by decide +kernel
theorem dX2_between_18 : decode cX2_between 18 = .ok (.if_icmp .eq 17, 3) := by decide +kernel
theorem dX2_between_21 : decode cX2_between 21 = .ok (.aload_n 0, 1) := by decide +kernel
theorem dX2_between_22 : decode cX2_between 22 = .ok (.getfield 22, 3) := by decide +kernel
theorem dX2_between_25 : decode cX2_between 25 = .ok (.iload_n 1, 1) := by decide +kernel
theorem dX2_between_26 : decode cX2_between 26 = .ok (.bipush 50, 2) := by decide +kernel
theorem dX2_between_28 : decode cX2_between 28 = .ok (.imul, 1) := by decide +kernel
theorem dX2_between_29 : decode cX2_between 29 = .ok (.iload_n 2, 1) := by decide +kernel
theorem dX2_between_30 : decode cX2_between 30 = .ok (.iadd, 1) := by decide +kernel
theorem dX2_between_31 : decode cX2_between 31 = .ok (.faload, 1) := by decide +kernel
theorem dX2_between_32 : decode cX2_between 32 = .ok (.goto 5, 3) := by decide +kernel
theorem dX2_between_35 : decode cX2_between 35 = .ok (.ldc 77, 2) := by decide +kernel
theorem dX2_between_37 : decode cX2_between 37 = .ok (.freturn, 1) := by decide +kernel
set_option maxRecDepth 20000 in
theorem ggX2_likeOnes_X2_has : GoodIn wsX2_likeOnes wsX2_has := goodIn_r _ [6, 7, 8, 9, 10, 11, 12, 13, 14, 15, 16] (by decide +kernel) (by decide +kernel)
set_option maxRecDepth 20000 in
theorem gX2_likeOnes_X2_has : GoodIn wsX2_likeOnes (wsV RX2 73 RX2 yX2_has wsX2_has) := goodIn_app (goodIn_of _ (by decide +kernel)) ggX2_likeOnes_X2_has
theorem dX2_likeOnes_0 : decode cX2_likeOnes 0 = .ok (.aload_n 0, 1) := by decide +kernel
theorem dX2_likeOnes_1 : decode cX2_likeOnes 1 = .ok (.iload_n 1, 1) := by decide +kernel
theorem dX2_likeOnes_2 : decode cX2_likeOnes 2 = .ok (.invokevirtual 73, 3) := by decide +kernel
theorem dX2_likeOnes_5 : decode cX2_likeOnes 5 = .ok (.ifCond .eq 12, 3) := by decide +kernel
theorem dX2_likeOnes_8 : decode cX2_likeOnes 8 = .ok (.aload_n 0, 1) := by decide +kernel
theorem dX2_likeOnes_9 : decode cX2_likeOnes 9 = .ok (.getfield 32, 3) := by decide +kernel
theorem dX2_likeOnes_12 : decode cX2_likeOnes 12 = .ok (.iload_n 1, 1) := by decide +kernel
theorem dX2_likeOnes_13 : decode cX2_likeOnes 13 = .ok (.iaload, 1) := by decide +kernel
theorem dX2_likeOnes_14 : decode cX2_likeOnes 14 = .ok (.goto 4, 3) := by decide +kernel
theorem dX2_likeOnes_17 : decode cX2_likeOnes 17 = .ok (.iconst 0, 1) := by decide +kernel
theorem dX2_likeOnes_18 : decode cX2_likeOnes 18 = .ok (.ireturn, 1) := by decide +kernel
set_option maxRecDepth 20000 in
theorem ggX2_nearOnes_X2_has : GoodIn wsX2_nearOnes wsX2_has := goodIn_r _ [10, 11, 12, 13, 14, 15, 16, 17, 18, 19, 20] (by decide +kernel) (by decide +kernel)
set_option maxRecDepth 20000 in
theorem gX2_nearOnes_X2_has : GoodIn wsX2_nearOnes (wsV RX2 73 RX2 yX2_has wsX2_has) := goodIn_app (goodIn_of _ (by decide +kernel)) ggX2_nearOnes_X2_has
theorem dX2_nearOnes_0 : decode cX2_nearOnes 0 = .ok (.aload_n 0, 1) := by decide +kernel
theorem dX2_nearOnes_1 : decode cX2_nearOnes 1 = .ok (.iload_n 1, 1) := by decide +kernel
theorem dX2_nearOnes_2 : decode cX2_nearOnes 2 = .ok (.invokevirtual 73, 3) := by decide +kernel
theorem dX2_nearOnes_5 : decode cX2_nearOnes 5 = .ok (.ifCond .eq 16, 3) := by decide +kernel
theorem dX2_nearOnes_8 : decode cX2_nearOnes 8 = .ok (.aload_n 0, 1) := by decide +kernel
theorem dX2_nearOnes_9 : decode cX2_nearOnes 9 = .ok (.getfield 29, 3) := by decide +kernel
theorem dX2_nearOnes_12 : decode cX2_nearOnes 12 = .ok (.iload_n 1, 1) := by decide +kernel
theorem dX2_nearOnes_13 : decode cX2_nearOnes 13 = .ok (.iaload, 1) := by decide +kernel
theorem dX2_nearOnes_14 : decode cX2_nearOnes 14 = .ok (.iload_n 2, 1) := by decide +kernel
theorem dX2_nearOnes_15 : decode cX2_nearOnes 15 = .ok (.invokestatic 45, 3) := by decide +kernel
theorem dX2_nearOnes_18 : decode cX2_nearOnes 18 = .ok (.goto 4, 3) := by decide +kernel
theorem dX2_nearOnes_21 : decode cX2_nearOnes 21 = .ok (.iconst 0, 1) := by decide +kernel
theorem dX2_nearOnes_22 : decode cX2_nearOnes 22 = .ok (.ireturn, 1) := by decide +kernel
set_option maxRecDepth 20000 in
theorem ggX2_near_X2_has : GoodIn wsX2_near wsX2_has := goodIn_r _ [7, 8, 9, 10, 11, 12, 13, 14, 15, 16, 17] (by decide +kernel) (by decide +kernel)
set_option maxRecDepth 20000 in
theorem gX2_near_X2_has : GoodIn wsX2_near (wsV RX2 73 RX2 yX2_has wsX2_has) := goodIn_app (goodIn_of _ (by decide +kernel)) ggX2_near_X2_has
theorem dX2_near_0 : decode cX2_near 0 = .ok (.aload_n 0, 1) := by decide +kernel
theorem dX2_near_1 : decode cX2_near 1 = .ok (.iload_n 1, 1) := by decide +kernel
theorem dX2_near_2 : decode cX2_near 2 = .ok (.invokevirtual 73, 3) := by decide +kernel
theorem dX2_near_5 : decode cX2_near 5 = .ok (.ifCond .eq 31, 3) := by decide +kernel
theorem dX2_near_8 : decode cX2_near 8 = .ok (.iload_n 2, 1) := by decide +kernel
theorem dX2_near_9 : decode cX2_near 9 = .ok (.ifCond .lt 27, 3) := by decide +kernel
theorem dX2_near_12 : decode cX2_near 12 = .ok (.iload_n 2, 1) := by decide +kernel
theorem dX2_near_13 : decode cX2_near 13 = .ok (.aload_n 0, 1) := by decide +kernel
theorem dX2_near_14 : decode cX2_near 14 = .ok (.getfield 29, 3) := by decide +kernel
theorem dX2_near_17 : decode cX2_near 17 = .ok (.iload_n 1, 1) := by decide +kernel
theorem dX2_near_18 : decode cX2_near 18 = .ok (.iaload, 1) := by decide +kernel
theorem dX2_near_19 : decode cX2_near 19 = .ok (.if_icmp .ge 17, 3) := by decide +kernel
theorem dX2_near_22 : decode cX2_near 22 = .ok (.aload_n 0, 1) := by decide +kernel
theorem dX2_near_23 : decode cX2_near 23 = .ok (.getfield 25, 3) := by decide +kernel
theorem dX2_near_26 : decode cX2_near 26 = .ok (.iload_n 1, 1) := by decide +kernel
theorem dX2_near_27 : decode cX2_near 27 = .ok (.bipush 12, 2) := by decide +kernel
theorem dX2_near_29 : decode cX2_near 29 = .ok (.imul, 1) := by decide +kernel
theorem dX2_near_30 : decode cX2_near 30 = .ok (.iload_n 2, 1) := by decide +kernel
theorem dX2_near_31 : decode cX2_near 31 = .ok (.iadd, 1) := by decide +kernel
theorem dX2_near_32 : decode cX2_near 32 = .ok (.iaload, 1) := by decide +kernel
theorem dX2_near_33 : decode cX2_near 33 = .ok (.goto 4, 3) := by decide +kernel
theorem dX2_near_36 : decode cX2_near 36 = .ok (.iconst (-1), 1) := by decide +kernel
theorem dX2_near_37 : decode cX2_near 37 = .ok (.ireturn, 1) := by decide +kernel
set_option maxRecDepth 20000 in
theorem ggX2_isNear_X2_nearOnes : GoodIn wsX2_isNear wsX2_nearOnes := goodIn_r _ [5, 6, 7, 8, 9, 10, 11, 12, 13, 4, 14, 15, 21, 22, 23, 24, 25, 26, 27, 28, 29] (by decide +kernel) (by decide +kernel)
set_option maxRecDepth 20000 in
theorem gX2_isNear_X2_nearOnes : GoodIn wsX2_isNear (wsV RX2 78 RX2 yX2_nearOnes wsX2_nearOnes) := goodIn_app (goodIn_of _ (by decide +kernel)) ggX2_isNear_X2_nearOnes
set_option maxRecDepth 20000 in
theorem ggX2_isNear_X2_near : GoodIn wsX2_isNear wsX2_near := goodIn_r _ [19, 6, 20, 11, 12, 13, 4, 14, 15, 21, 22, 23, 24, 25, 26, 27, 28, 29] (by decide +kernel) (by decide +kernel)
set_option maxRecDepth 20000 in
theorem gX2_isNear_X2_near : GoodIn wsX2_isNear (wsV RX2 81 RX2 yX2_near wsX2_near) := goodIn_app (goodIn_of _ (by decide +kernel)) ggX2_isNear_X2_near
theorem dX2_isNear_0 : decode cX2_isNear 0 = .ok (.iconst 0, 1) := by decide +kernel
theorem dX2_isNear_1 : decode cX2_isNear 1 = .ok (.istore 4, 2) := by decide +kernel
theorem dX2_isNear_3 : decode cX2_isNear 3 = .ok (.iload 4, 2) := by decide +kernel
theorem dX2_isNear_5 : decode cX2_isNear 5 = .ok (.aload_n 0, 1) := by decide +kernel
theorem dX2_isNear_6 : decode cX2_isNear 6 = .ok (.iload_n 1, 1) := by decide +kernel
theorem dX2_isNear_7 : decode cX2_isNear 7 = .ok (.iload_n 3, 1) := by decide +kernel
theorem dX2_isNear_8 : decode cX2_isNear 8 = .ok (.invokevirtual 78, 3) := by decide +kernel
theorem dX2_isNear_11 : decode cX2_isNear 11 = .ok (.if_icmp .ge 22, 3) := by decide +kernel
theorem dX2_isNear_14 : decode cX2_isNear 14 = .ok (.aload_n 0, 1) := by decide +kernel
theorem dX2_isNear_15 : decode cX2_isNear 15 = .ok (.iload_n 1, 1) := by decide +kernel
theorem dX2_isNear_16 : decode cX2_isNear 16 = .ok (.iload 4, 2) := by decide +kernel
theorem dX2_isNear_18 : decode cX2_isNear 18 = .ok (.invokevirtual 81, 3) := by decide +kernel
theorem dX2_isNear_21 : decode cX2_isNear 21 = .ok (.iload_n 2, 1) := by decide +kernel
theorem dX2_isNear_22 : decode cX2_isNear 22 = .ok (.if_icmp .ne 5, 3) := by decide +kernel
theorem dX2_isNear_25 : decode cX2_isNear 25 = .ok (.iconst 1, 1) := by decide +kernel
theorem dX2_isNear_26 : decode cX2_isNear 26 = .ok (.ireturn, 1) := by decide +kernel
theorem dX2_isNear_27 : decode cX2_isNear 27 = .ok (.iinc 4 1, 3) := by decide +kernel
theorem dX2_isNear_30 : decode cX2_isNear 30 = .ok (.goto (-27), 3) := by decide +kernel
theorem dX2_isNear_33 : decode cX2_isNear 33 = .ok (.iconst 0, 1) := by decide +kernel
theorem dX2_isNear_34 : decode cX2_isNear 34 = .ok (.ireturn, 1) := by decide +kernel
theorem dX2_has_0 : decode cX2_has 0 = .ok (.iload_n 1, 1) := by decide +kernel
theorem dX2_has_1 : decode cX2_has 1 = .ok (.ifCond .lt 15, 3) := by decide +kernel
theorem dX2_has_4 : decode cX2_has 4 = .ok (.iload_n 1, 1) := by decide +kernel
theorem dX2_has_5 : decode cX2_has 5 = .ok (.aload_n 0, 1) := by decide +kernel
theorem dX2_has_6 : decode cX2_has 6 = .ok (.getfield 51, 3) := by decide +kernel
theorem dX2_has_9 : decode cX2_has 9 = .ok (.if_icmp .ge 7, 3) := by decide +kernel
theorem dX2_has_12 : decode cX2_has 12 = .ok (.iconst 1, 1) := by decide +kernel
theorem dX2_has_13 : decode cX2_has 13 = .ok (.goto 4, 3) := by decide +kernel
theorem dX2_has_16 : decode cX2_has 16 = .ok (.iconst 0, 1) := by decide +kernel
theorem dX2_has_17 : decode cX2_has 17 = .ok (.ireturn, 1) := by decide +kernel
set_option maxRecDepth 20000 in
theorem ggX2_takeNotes_X0_member : GoodIn wsX2_takeNotes wsX0_member := goodIn_r _ [8, 9, 10, 11, 12, 7, 13, 14, 15, 16, 17, 18, 19, 20, 33, 34, 35, 36, 37] (by decide +kernel) (by decide +kernel)
set_option maxRecDepth 20000 in
theorem gX2_takeNotes_X0_member : GoodIn wsX2_takeNotes (wsV RX2 84 RX0 yX0_member wsX0_member) := goodIn_app (goodIn_of _ (by decide +kernel)) ggX2_takeNotes_X0_member
set_option maxRecDepth 20000 in
theorem ggX2_takeNotes_X5_valueOf : GoodIn wsX2_takeNotes wsX5_valueOf := goodIn_r _ [22, 23] (by decide +kernel) (by decide +kernel)
set_option maxRecDepth 20000 in
theorem gX2_takeNotes_X5_valueOf_n87 : GoodIn wsX2_takeNotes (wsX5_valueOf) := ggX2_takeNotes_X5_valueOf
theorem dX2_takeNotes_0 : decode cX2_takeNotes 0 = .ok (.iconst 0, 1) := by decide +kernel
theorem dX2_takeNotes_1 : decode cX2_takeNotes 1 = .ok (.istore_n 2, 1) := by decide +kernel
theorem dX2_takeNotes_2 : decode cX2_takeNotes 2 = .ok (.iload_n 2, 1) := by decide +kernel
theorem dX2_takeNotes_3 : decode cX2_takeNotes 3 = .ok (.aload_n 0, 1) := by decide +kernel
theorem dX2_takeNotes_4 : decode cX2_takeNotes 4 = .ok (.getfield 51, 3) := by decide +kernel
theorem dX2_takeNotes_7 : decode cX2_takeNotes 7 = .ok (.if_icmp .ge 68, 3) := by decide +kernel
theorem dX2_takeNotes_10 : decode cX2_takeNotes 10 = .ok (.iconst 0, 1) := by decide +kernel
theorem dX2_takeNotes_11 : decode cX2_takeNotes 11 = .ok (.istore_n 3, 1) := by decide +kernel
theorem dX2_takeNotes_12 : decode cX2_takeNotes 12 = .ok (.iload_n 3, 1) := by decide +kernel
theorem dX2_takeNotes_13 : decode cX2_takeNotes 13 = .ok (.iconst 4, 1) := by decide +kernel
theorem dX2_takeNotes_14 : decode cX2_takeNotes 14 = .ok (.if_icmp .ge 55, 3) := by decide +kernel
theorem dX2_takeNotes_17 : decode cX2_takeNotes 17 = .ok (.aload_n 1, 1) := by decide +kernel
theorem dX2_takeNotes_18 : decode cX2_takeNotes 18 = .ok (.iload_n 2, 1) := by decide +kernel
theorem dX2_takeNotes_19 : decode cX2_takeNotes 19 = .ok (.iload_n 3, 1) := by decide +kernel
theorem dX2_takeNotes_20 : decode cX2_takeNotes 20 = .ok (.invokevirtual 84, 3) := by decide +kernel
theorem dX2_takeNotes_23 : decode cX2_takeNotes 23 = .ok (.istore 4, 2) := by decide +kernel
theorem dX2_takeNotes_25 : decode cX2_takeNotes 25 = .ok (.aload_n 0, 1) := by decide +kernel
theorem dX2_takeNotes_26 : decode cX2_takeNotes 26 = .ok (.getfield 15, 3) := by decide +kernel
theorem dX2_takeNotes_29 : decode cX2_takeNotes 29 = .ok (.iload_n 2, 1) := by decide +kernel
theorem dX2_takeNotes_30 : decode cX2_takeNotes 30 = .ok (.iconst 4, 1) := by decide +kernel
theorem dX2_takeNotes_31 : decode cX2_takeNotes 31 = .ok (.imul, 1) := by decide +kernel
theorem dX2_takeNotes_32 : decode cX2_takeNotes 32 = .ok (.iload_n 3, 1) := by decide +kernel
theorem dX2_takeNotes_33 : decode cX2_takeNotes 33 = .ok (.iadd, 1) := by decide +kernel
theorem dX2_takeNotes_34 : decode cX2_takeNotes 34 = .ok (.iload 4, 2) := by decide +kernel
theorem dX2_takeNotes_36 : decode cX2_takeNotes 36 = .ok (.sipush (-10000), 3) := by decide +kernel
theorem dX2_takeNotes_39 : decode cX2_takeNotes 39 = .ok (.if_icmp .eq 7, 3) := by decide +kernel
theorem dX2_takeNotes_42 : decode cX2_takeNotes 42 = .ok (.iconst 1, 1) := by decide +kernel
theorem dX2_takeNotes_43 : decode cX2_takeNotes 43 = .ok (.goto 4, 3) := by decide +kernel
theorem dX2_takeNotes_46 : decode cX2_takeNotes 46 = .ok (.iconst 0, 1) := by decide +kernel
theorem dX2_takeNotes_47 : decode cX2_takeNotes 47 = .ok (.bastore, 1) := by decide +kernel
theorem dX2_takeNotes_48 : decode cX2_takeNotes 48 = .ok (.aload_n 0, 1) := by decide +kernel
theorem dX2_takeNotes_49 : decode cX2_takeNotes 49 = .ok (.getfield 9, 3) := by decide +kernel
theorem dX2_takeNotes_52 : decode cX2_takeNotes 52 = .ok (.iload_n 2, 1) := by decide +kernel
theorem dX2_takeNotes_53 : decode cX2_takeNotes 53 = .ok (.iconst 4, 1) := by decide +kernel
theorem dX2_takeNotes_54 : decode cX2_takeNotes 54 = .ok (.imul, 1) := by decide +kernel
theorem dX2_takeNotes_55 : decode cX2_takeNotes 55 = .ok (.iload_n 3, 1) := by decide +kernel
theorem dX2_takeNotes_56 : decode cX2_takeNotes 56 = .ok (.iadd, 1) := by decide +kernel
theorem dX2_takeNotes_57 : decode cX2_takeNotes 57 = .ok (.iload 4, 2) := by decide +kernel
theorem dX2_takeNotes_59 : decode cX2_takeNotes 59 = .ok (.invokestatic 87, 3) := by decide +kernel
theorem dX2_takeNotes_62 : decode cX2_takeNotes 62 = .ok (.fastore, 1) := by decide +kernel
theorem dX2_takeNotes_63 : decode cX2_takeNotes 63 = .ok (.iinc 3 1, 3) := by decide +kernel
theorem dX2_takeNotes_66 : decode cX2_takeNotes 66 = .ok (.goto (-54), 3) := by decide +kernel
theorem dX2_takeNotes_69 : decode cX2_takeNotes 69 = .ok (.iinc 2 1, 3) := by decide +kernel
theorem dX2_takeNotes_72 : decode cX2_takeNotes 72 = .ok (.goto (-70), 3) := by decide +kernel
theorem dX2_takeNotes_75 : decode cX2_takeNotes 75 = .ok (.return_, 1) := by decide +kernel
theorem dX2_measure_0 : decode cX2_measure 0 = .ok (.fconst 0, 1) := by decide +kernel
theorem dX2_measure_1 : decode cX2_measure 1 = .ok (.fstore_n 3, 1) := by decide +kernel
theorem dX2_measure_2 : decode cX2_measure 2 = .ok (.fconst 0, 1) := by decide +kernel
theorem dX2_measure_3 : decode cX2_measure 3 = .ok (.fstore 4, 2) := by decide +kernel
theorem dX2_measure_5 : decode cX2_measure 5 = .ok (.iconst 0, 1) := by decide +kernel
theorem dX2_measure_6 : decode cX2_measure 6 = .ok (.istore 5, 2) := by decide +kernel
theorem dX2_measure_8 : decode cX2_measure 8 = .ok (.iload 5, 2) := by decide +kernel
theorem dX2_measure_10 : decode cX2_measure 10 = .ok (.iconst 4, 1) := by decide +kernel
theorem dX2_measure_11 : decode cX2_measure 11 = .ok (.if_icmp .ge 102, 3) := by decide +kernel
theorem dX2_measure_14 : decode cX2_measure 14 = .ok (.iload_n 1, 1) := by decide +kernel
theorem dX2_measure_15 : decode cX2_measure 15 = .ok (.iconst 4, 1) := by decide +kernel
theorem dX2_measure_16 : decode cX2_measure 16 = .ok (.imul, 1) := by decide +kernel
theorem dX2_measure_17 : decode cX2_measure 17 = .ok (.iload 5, 2) := by decide +kernel
theorem dX2_measure_19 : decode cX2_measure 19 = .ok (.iadd, 1) := by decide +kernel
theorem dX2_measure_20 : decode cX2_measure 20 = .ok (.istore 6, 2) := by decide +kernel
theorem dX2_measure_22 : decode cX2_measure 22 = .ok (.iload_n 2, 1) := by decide +kernel
theorem dX2_measure_23 : decode cX2_measure 23 = .ok (.iconst 4, 1) := by decide +kernel
theorem dX2_measure_24 : decode cX2_measure 24 = .ok (.imul, 1) := by decide +kernel
theorem dX2_measure_25 : decode cX2_measure 25 = .ok (.iload 5, 2) := by decide +kernel
theorem dX2_measure_27 : decode cX2_measure 27 = .ok (.iadd, 1) := by decide +kernel
theorem dX2_measure_28 : decode cX2_measure 28 = .ok (.istore 7, 2) := by decide +kernel
theorem dX2_measure_30 : decode cX2_measure 30 = .ok (.aload_n 0, 1) := by decide +kernel
theorem dX2_measure_31 : decode cX2_measure 31 = .ok (.getfield 15, 3) := by decide +kernel
theorem dX2_measure_34 : decode cX2_measure 34 = .ok (.iload 6, 2) := by decide +kernel
theorem dX2_measure_36 : decode cX2_measure 36 = .ok (.baload, 1) := by decide +kernel
theorem dX2_measure_37 : decode cX2_measure 37 = .ok (.ifCond .eq 70, 3) := by decide +kernel
theorem dX2_measure_40 : decode cX2_measure 40 = .ok (.aload_n 0, 1) := by decide +kernel
theorem dX2_measure_41 : decode cX2_measure 41 = .ok (.getfield 15, 3) := by decide +kernel
theorem dX2_measure_44 : decode cX2_measure 44 = .ok (.iload 7, 2) := by decide +kernel
theorem dX2_measure_46 : decode cX2_measure 46 = .ok (.baload, 1) := by decide +kernel
theorem dX2_measure_47 : decode cX2_measure 47 = .ok (.ifCond .eq 60, 3) := by decide +kernel
theorem dX2_measure_50 : decode cX2_measure 50 = .ok (.aload_n 0, 1) := by decide +kernel
theorem dX2_measure_51 : decode cX2_measure 51 = .ok (.getfield 19, 3) := by decide +kernel
theorem dX2_measure_54 : decode cX2_measure 54 = .ok (.iload 5, 2) := by decide +kernel
theorem dX2_measure_56 : decode cX2_measure 56 = .ok (.faload, 1) := by decide +kernel
theorem dX2_measure_57 : decode cX2_measure 57 = .ok (.fconst 0, 1) := by decide +kernel
theorem dX2_measure_58 : decode cX2_measure 58 = .ok (.fcmp .l, 1) := by decide +kernel
theorem dX2_measure_59 : decode cX2_measure 59 = .ok (.ifCond .le 48, 3) := by decide +kernel
theorem dX2_measure_62 : decode cX2_measure 62 = .ok (.aload_n 0, 1) := by decide +kernel
theorem dX2_measure_63 : decode cX2_measure 63 = .ok (.getfield 9, 3) := by decide +kernel
theorem dX2_measure_66 : decode cX2_measure 66 = .ok (.iload 6, 2) := by decide +kernel
theorem dX2_measure_68 : decode cX2_measure 68 = .ok (.faload, 1) := by decide +kernel
theorem dX2_measure_69 : decode cX2_measure 69 = .ok (.aload_n 0, 1) := by decide +kernel
theorem dX2_measure_70 : decode cX2_measure 70 = .ok (.getfield 9, 3) := by decide +kernel
theorem dX2_measure_73 : decode cX2_measure 73 = .ok (.iload 7, 2) := by decide +kernel
theorem dX2_measure_75 : decode cX2_measure 75 = .ok (.faload, 1) := by decide +kernel
theorem dX2_measure_76 : decode cX2_measure 76 = .ok (.fsub, 1) := by decide +kernel
theorem dX2_measure_77 : decode cX2_measure 77 = .ok (.fstore 8, 2) := by decide +kernel
theorem dX2_measure_79 : decode cX2_measure 79 = .ok (.fload_n 3, 1) := by decide +kernel
theorem dX2_measure_80 : decode cX2_measure 80 = .ok (.aload_n 0, 1) := by decide +kernel
theorem dX2_measure_81 : decode cX2_measure 81 = .ok (.getfield 19, 3) := by decide +kernel
theorem dX2_measure_84 : decode cX2_measure 84 = .ok (.iload 5, 2) := by decide +kernel
theorem dX2_measure_86 : decode cX2_measure 86 = .ok (.faload, 1) := by decide +kernel
theorem dX2_measure_87 : decode cX2_measure 87 = .ok (.fload 8, 2) := by decide +kernel
theorem dX2_measure_89 : decode cX2_measure 89 = .ok (.fload 8, 2) := by decide +kernel
theorem dX2_measure_91 : decode cX2_measure 91 = .ok (.fmul, 1) := by decide +kernel
theorem dX2_measure_92 : decode cX2_measure 92 = .ok (.fmul, 1) := by decide +kernel
theorem dX2_measure_93 : decode cX2_measure 93 = .ok (.fadd, 1) := by decide +kernel
theorem dX2_measure_94 : decode cX2_measure 94 = .ok (.fstore_n 3, 1) := by decide +kernel
theorem dX2_measure_95 : decode cX2_measure 95 = .ok (.fload 4, 2) := by decide +kernel
theorem dX2_measure_97 : decode cX2_measure 97 = .ok (.aload_n 0, 1) := by decide +kernel
theorem dX2_measure_98 : decode cX2_measure 98 = .ok (.getfield 19, 3) := by decide +kernel
theorem dX2_measure_101 : decode cX2_measure 101 = .ok (.iload 5, 2) := by decide +kernel
theorem dX2_measure_103 : decode cX2_measure 103 = .ok (.faload, 1) := by decide +kernel
theorem dX2_measure_104 : decode cX2_measure 104 = .ok (.fadd, 1) := by decide +kernel
theorem dX2_measure_105 : decode cX2_measure 105 = .ok (.fstore 4, 2) := by decide +kernel
theorem dX2_measure_107 : decode cX2_measure 107 = .ok (.iinc 5 1, 3) := by decide +kernel
theorem dX2_measure_110 : decode cX2_measure 110 = .ok (.goto (-102), 3) := by decide +kernel
theorem dX2_measure_113 : decode cX2_measure 113 = .ok (.fload 4, 2) := by decide +kernel
theorem dX2_measure_115 : decode cX2_measure 115 = .ok (.fconst 0, 1) := by decide +kernel
theorem dX2_measure_116 : decode cX2_measure 116 = .ok (.fcmp .l, 1) := by decide +kernel
theorem dX2_measure_117 : decode cX2_measure 117 = .ok (.ifCond .le 10, 3) := by decide +kernel
theorem dX2_measure_120 : decode cX2_measure 120 = .ok (.fload_n 3, 1) := by decide +kernel
theorem dX2_measure_121 : decode cX2_measure 121 = .ok (.fload 4, 2) := by decide +kernel
theorem dX2_measure_123 : decode cX2_measure 123 = .ok (.fdiv, 1) := by decide +kernel
theorem dX2_measure_124 : decode cX2_measure 124 = .ok (.goto 5, 3) := by decide +kernel
theorem dX2_measure_127 : decode cX2_measure 127 = .ok (.ldc 77, 2) := by decide +kernel
theorem dX2_measure_129 : decode cX2_measure 129 = .ok (.freturn, 1) := by decide +kernel
set_option maxRecDepth 20000 in
theorem ggX2_rank_X2_enter : GoodIn wsX2_rank wsX2_enter := goodIn_r _ [13, 14, 15, 16, 4, 17, 18, 19, 20, 12, 21, 6, 22, 23, 24, 25, 26, 1, 27, 28, 29, 30, 31, 32, 33, 34, 35] (by decide +kernel) (by decide +kernel)
set_option maxRecDepth 20000 in
theorem gX2_rank_X2_enter : GoodIn wsX2_rank (wsV RX2 94 RX2 yX2_enter wsX2_enter) := goodIn_app (goodIn_of _ (by decide +kernel)) ggX2_rank_X2_enter
theorem dX2_rank_0 : decode cX2_rank 0 = .ok (.iconst 0, 1) := by decide +kernel
theorem dX2_rank_1 : decode cX2_rank 1 = .ok (.istore_n 3, 1) := by decide +kernel
theorem dX2_rank_2 : decode cX2_rank 2 = .ok (.iconst 0, 1) := by decide +kernel
theorem dX2_rank_3 : decode cX2_rank 3 = .ok (.istore 4, 2) := by decide +kernel
theorem dX2_rank_5 : decode cX2_rank 5 = .ok (.iconst 0, 1) := by decide +kernel
theorem dX2_rank_6 : decode cX2_rank 6 = .ok (.istore 5, 2) := by decide +kernel
theorem dX2_rank_8 : decode cX2_rank 8 = .ok (.iload 5, 2) := by decide +kernel
theorem dX2_rank_10 : decode cX2_rank 10 = .ok (.iconst 1, 1) := by decide +kernel
theorem dX2_rank_11 : decode cX2_rank 11 = .ok (.iadd, 1) := by decide +kernel
theorem dX2_rank_12 : decode cX2_rank 12 = .ok (.aload_n 0, 1) := by decide +kernel
theorem dX2_rank_13 : decode cX2_rank 13 = .ok (.getfield 51, 3) := by decide +kernel
theorem dX2_rank_16 : decode cX2_rank 16 = .ok (.if_icmp .ge 77, 3) := by decide +kernel
theorem dX2_rank_19 : decode cX2_rank 19 = .ok (.iload 5, 2) := by decide +kernel
theorem dX2_rank_21 : decode cX2_rank 21 = .ok (.iload_n 1, 1) := by decide +kernel
theorem dX2_rank_22 : decode cX2_rank 22 = .ok (.isub, 1) := by decide +kernel
theorem dX2_rank_23 : decode cX2_rank 23 = .ok (.invokestatic 91, 3) := by decide +kernel
theorem dX2_rank_26 : decode cX2_rank 26 = .ok (.iload_n 2, 1) := by decide +kernel
theorem dX2_rank_27 : decode cX2_rank 27 = .ok (.if_icmp .le 11, 3) := by decide +kernel
theorem dX2_rank_30 : decode cX2_rank 30 = .ok (.iload 5, 2) := by decide +kernel
theorem dX2_rank_32 : decode cX2_rank 32 = .ok (.iconst 1, 1) := by decide +kernel
theorem dX2_rank_33 : decode cX2_rank 33 = .ok (.iadd, 1) := by decide +kernel
theorem dX2_rank_34 : decode cX2_rank 34 = .ok (.iload_n 1, 1) := by decide +kernel
theorem dX2_rank_35 : decode cX2_rank 35 = .ok (.if_icmp .ne 7, 3) := by decide +kernel
theorem dX2_rank_38 : decode cX2_rank 38 = .ok (.iconst 1, 1) := by decide +kernel
theorem dX2_rank_39 : decode cX2_rank 39 = .ok (.goto 4, 3) := by decide +kernel
theorem dX2_rank_42 : decode cX2_rank 42 = .ok (.iconst 0, 1) := by decide +kernel
theorem dX2_rank_43 : decode cX2_rank 43 = .ok (.istore 6, 2) := by decide +kernel
theorem dX2_rank_45 : decode cX2_rank 45 = .ok (.aload_n 0, 1) := by decide +kernel
theorem dX2_rank_46 : decode cX2_rank 46 = .ok (.getfield 22, 3) := by decide +kernel
theorem dX2_rank_49 : decode cX2_rank 49 = .ok (.iload_n 1, 1) := by decide +kernel
theorem dX2_rank_50 : decode cX2_rank 50 = .ok (.bipush 50, 2) := by decide +kernel
theorem dX2_rank_52 : decode cX2_rank 52 = .ok (.imul, 1) := by decide +kernel
theorem dX2_rank_53 : decode cX2_rank 53 = .ok (.iload 5, 2) := by decide +kernel
theorem dX2_rank_55 : decode cX2_rank 55 = .ok (.iadd, 1) := by decide +kernel
theorem dX2_rank_56 : decode cX2_rank 56 = .ok (.faload, 1) := by decide +kernel
theorem dX2_rank_57 : decode cX2_rank 57 = .ok (.fstore 7, 2) := by decide +kernel
theorem dX2_rank_59 : decode cX2_rank 59 = .ok (.iload 6, 2) := by decide +kernel
theorem dX2_rank_61 : decode cX2_rank 61 = .ok (.ifCond .ne 26, 3) := by decide +kernel
theorem dX2_rank_64 : decode cX2_rank 64 = .ok (.fload 7, 2) := by decide +kernel
theorem dX2_rank_66 : decode cX2_rank 66 = .ok (.fconst 0, 1) := by decide +kernel
theorem dX2_rank_67 : decode cX2_rank 67 = .ok (.fcmp .l, 1) := by decide +kernel
theorem dX2_rank_68 : decode cX2_rank 68 = .ok (.ifCond .lt 19, 3) := by decide +kernel
theorem dX2_rank_71 : decode cX2_rank 71 = .ok (.iinc 3 1, 3) := by decide +kernel
theorem dX2_rank_74 : decode cX2_rank 74 = .ok (.aload_n 0, 1) := by decide +kernel
theorem dX2_rank_75 : decode cX2_rank 75 = .ok (.iload_n 1, 1) := by decide +kernel
theorem dX2_rank_76 : decode cX2_rank 76 = .ok (.iload 5, 2) := by decide +kernel
theorem dX2_rank_78 : decode cX2_rank 78 = .ok (.fload 7, 2) := by decide +kernel
theorem dX2_rank_80 : decode cX2_rank 80 = .ok (.iload 4, 2) := by decide +kernel
theorem dX2_rank_82 : decode cX2_rank 82 = .ok (.invokevirtual 94, 3) := by decide +kernel
theorem dX2_rank_85 : decode cX2_rank 85 = .ok (.istore 4, 2) := by decide +kernel
theorem dX2_rank_87 : decode cX2_rank 87 = .ok (.iinc 5 1, 3) := by decide +kernel
theorem dX2_rank_90 : decode cX2_rank 90 = .ok (.goto (-82), 3) := by decide +kernel
theorem dX2_rank_93 : decode cX2_rank 93 = .ok (.aload_n 0, 1) := by decide +kernel
theorem dX2_rank_94 : decode cX2_rank 94 = .ok (.getfield 32, 3) := by decide +kernel
theorem dX2_rank_97 : decode cX2_rank 97 = .ok (.iload_n 1, 1) := by decide +kernel
theorem dX2_rank_98 : decode cX2_rank 98 = .ok (.iload_n 3, 1) := by decide +kernel
theorem dX2_rank_99 : decode cX2_rank 99 = .ok (.iastore, 1) := by decide +kernel
theorem dX2_rank_100 : decode cX2_rank 100 = .ok (.aload_n 0, 1) := by decide +kernel
theorem dX2_rank_101 : decode cX2_rank 101 = .ok (.getfield 29, 3) := by decide +kernel
theorem dX2_rank_104 : decode cX2_rank 104 = .ok (.iload_n 1, 1) := by decide +kernel
theorem dX2_rank_105 : decode cX2_rank 105 = .ok (.iload 4, 2) := by decide +kernel
theorem dX2_rank_107 : decode cX2_rank 107 = .ok (.iastore, 1) := by decide +kernel
theorem dX2_rank_108 : decode cX2_rank 108 = .ok (.return_, 1) := by decide +kernel
set_option maxRecDepth 20000 in
theorem ggX2_enter_X2_between : GoodIn wsX2_enter wsX2_between := goodIn_r _ [10, 11, 12, 13, 14, 15, 9, 16, 17, 18, 19, 20, 21, 22, 23, 24, 25, 26] (by decide +kernel) (by decide +kernel)
set_option maxRecDepth 20000 in
theorem gX2_enter_X2_between : GoodIn wsX2_enter (wsV RX2 98 RX2 yX2_between wsX2_between) := goodIn_app (goodIn_of _ (by decide +kernel)) ggX2_enter_X2_between
theorem dX2_enter_0 : decode cX2_enter 0 = .ok (.iload_n 1, 1) := by decide +kernel
theorem dX2_enter_1 : decode cX2_enter 1 = .ok (.bipush 12, 2) := by decide +kernel
theorem dX2_enter_3 : decode cX2_enter 3 = .ok (.imul, 1) := by decide +kernel
theorem dX2_enter_4 : decode cX2_enter 4 = .ok (.istore 5, 2) := by decide +kernel
theorem dX2_enter_6 : decode cX2_enter 6 = .ok (.iload 4, 2) := by decide +kernel
theorem dX2_enter_8 : decode cX2_enter 8 = .ok (.istore 6, 2) := by decide +kernel
theorem dX2_enter_10 : decode cX2_enter 10 = .ok (.iload 6, 2) := by decide +kernel
theorem dX2_enter_12 : decode cX2_enter 12 = .ok (.ifCond .le 60, 3) := by decide +kernel
theorem dX2_enter_15 : decode cX2_enter 15 = .ok (.fload_n 3, 1) := by decide +kernel
theorem dX2_enter_16 : decode cX2_enter 16 = .ok (.aload_n 0, 1) := by decide +kernel
theorem dX2_enter_17 : decode cX2_enter 17 = .ok (.iload_n 1, 1) := by decide +kernel
theorem dX2_enter_18 : decode cX2_enter 18 = .ok (.aload_n 0, 1) := by decide +kernel
theorem dX2_enter_19 : decode cX2_enter 19 = .ok (.getfield 25, 3) := by decide +kernel
theorem dX2_enter_22 : decode cX2_enter 22 = .ok (.iload 5, 2) := by decide +kernel
theorem dX2_enter_24 : decode cX2_enter 24 = .ok (.iload 6, 2) := by decide +kernel
theorem dX2_enter_26 : decode cX2_enter 26 = .ok (.iadd, 1) := by decide +kernel
theorem dX2_enter_27 : decode cX2_enter 27 = .ok (.iconst 1, 1) := by decide +kernel
theorem dX2_enter_28 : decode cX2_enter 28 = .ok (.isub, 1) := by decide +kernel
theorem dX2_enter_29 : decode cX2_enter 29 = .ok (.iaload, 1) := by decide +kernel
theorem dX2_enter_30 : decode cX2_enter 30 = .ok (.invokevirtual 98, 3) := by decide +kernel
theorem dX2_enter_33 : decode cX2_enter 33 = .ok (.fcmp .g, 1) := by decide +kernel
theorem dX2_enter_34 : decode cX2_enter 34 = .ok (.ifCond .ge 38, 3) := by decide +kernel
theorem dX2_enter_37 : decode cX2_enter 37 = .ok (.iload 6, 2) := by decide +kernel
theorem dX2_enter_39 : decode cX2_enter 39 = .ok (.bipush 12, 2) := by decide +kernel
theorem dX2_enter_41 : decode cX2_enter 41 = .ok (.if_icmp .ge 25, 3) := by decide +kernel
theorem dX2_enter_44 : decode cX2_enter 44 = .ok (.aload_n 0, 1) := by decide +kernel
theorem dX2_enter_45 : decode cX2_enter 45 = .ok (.getfield 25, 3) := by decide +kernel
theorem dX2_enter_48 : decode cX2_enter 48 = .ok (.iload 5, 2) := by decide +kernel
theorem dX2_enter_50 : decode cX2_enter 50 = .ok (.iload 6, 2) := by decide +kernel
theorem dX2_enter_52 : decode cX2_enter 52 = .ok (.iadd, 1) := by decide +kernel
theorem dX2_enter_53 : decode cX2_enter 53 = .ok (.aload_n 0, 1) := by decide +kernel
theorem dX2_enter_54 : decode cX2_enter 54 = .ok (.getfield 25, 3) := by decide +kernel
theorem dX2_enter_57 : decode cX2_enter 57 = .ok (.iload 5, 2) := by decide +kernel
theorem dX2_enter_59 : decode cX2_enter 59 = .ok (.iload 6, 2) := by decide +kernel
theorem dX2_enter_61 : decode cX2_enter 61 = .ok (.iadd, 1) := by decide +kernel
theorem dX2_enter_62 : decode cX2_enter 62 = .ok (.iconst 1, 1) := by decide +kernel
theorem dX2_enter_63 : decode cX2_enter 63 = .ok (.isub, 1) := by decide +kernel
theorem dX2_enter_64 : decode cX2_enter 64 = .ok (.iaload, 1) := by decide +kernel
theorem dX2_enter_65 : decode cX2_enter 65 = .ok (.iastore, 1) := by decide +kernel
theorem dX2_enter_66 : decode cX2_enter 66 = .ok (.iinc 6 (-1), 3) := by decide +kernel
theorem dX2_enter_69 : decode cX2_enter 69 = .ok (.goto (-59), 3) := by decide +kernel
theorem dX2_enter_72 : decode cX2_enter 72 = .ok (.iload 6, 2) := by decide +kernel
theorem dX2_enter_74 : decode cX2_enter 74 = .ok (.bipush 12, 2) := by decide +kernel
theorem dX2_enter_76 : decode cX2_enter 76 = .ok (.if_icmp .ge 14, 3) := by decide +kernel
theorem dX2_enter_79 : decode cX2_enter 79 = .ok (.aload_n 0, 1) := by decide +kernel
theorem dX2_enter_80 : decode cX2_enter 80 = .ok (.getfield 25, 3) := by decide +kernel
theorem dX2_enter_83 : decode cX2_enter 83 = .ok (.iload 5, 2) := by decide +kernel
theorem dX2_enter_85 : decode cX2_enter 85 = .ok (.iload 6, 2) := by decide +kernel
theorem dX2_enter_87 : decode cX2_enter 87 = .ok (.iadd, 1) := by decide +kernel
theorem dX2_enter_88 : decode cX2_enter 88 = .ok (.iload_n 2, 1) := by decide +kernel
theorem dX2_enter_89 : decode cX2_enter 89 = .ok (.iastore, 1) := by decide +kernel
theorem dX2_enter_90 : decode cX2_enter 90 = .ok (.iload 4, 2) := by decide +kernel
theorem dX2_enter_92 : decode cX2_enter 92 = .ok (.iconst 1, 1) := by decide +kernel
theorem dX2_enter_93 : decode cX2_enter 93 = .ok (.iadd, 1) := by decide +kernel
theorem dX2_enter_94 : decode cX2_enter 94 = .ok (.bipush 12, 2) := by decide +kernel
theorem dX2_enter_96 : decode cX2_enter 96 = .ok (.invokestatic 45, 3) := by decide +kernel
theorem dX2_enter_99 : decode cX2_enter 99 = .ok (.ireturn, 1) := by decide +kernel
set_option maxRecDepth 20000 in
theorem ggX3_init_X0_init : GoodIn wsX3_init wsX0_init := goodIn_r _ [10, 11, 2, 3, 12, 13, 14, 15, 16, 17, 18, 19, 23, 24, 25, 26, 27] (by decide +kernel) (by decide +kernel)
set_option maxRecDepth 20000 in
theorem gX3_init_X0_init : GoodIn wsX3_init (wsX0_init) := ggX3_init_X0_init
theorem dX3_init_0 : decode cX3_init 0 = .ok (.aload_n 0, 1) := by decide +kernel
theorem dX3_init_1 : decode cX3_init 1 = .ok (.invokespecial 3, 3) := by decide +kernel
theorem dX3_init_4 : decode cX3_init 4 = .ok (.aload_n 0, 1) := by decide +kernel
theorem dX3_init_5 : decode cX3_init 5 = .ok (.iconst 5, 1) := by decide +kernel
theorem dX3_init_6 : decode cX3_init 6 = .ok (.anewarray 9, 3) := by decide +kernel
theorem dX3_init_9 : decode cX3_init 9 = .ok (.putfield 11, 3) := by decide +kernel
theorem dX3_init_12 : decode cX3_init 12 = .ok (.iconst 0, 1) := by decide +kernel
theorem dX3_init_13 : decode cX3_init 13 = .ok (.istore_n 1, 1) := by decide +kernel
theorem dX3_init_14 : decode cX3_init 14 = .ok (.iload_n 1, 1) := by decide +kernel
theorem dX3_init_15 : decode cX3_init 15 = .ok (.iconst 5, 1) := by decide +kernel
theorem dX3_init_16 : decode cX3_init 16 = .ok (.if_icmp .ge 22, 3) := by decide +kernel
theorem dX3_init_19 : decode cX3_init 19 = .ok (.aload_n 0, 1) := by decide +kernel
theorem dX3_init_20 : decode cX3_init 20 = .ok (.getfield 11, 3) := by decide +kernel
theorem dX3_init_23 : decode cX3_init 23 = .ok (.iload_n 1, 1) := by decide +kernel
theorem dX3_init_24 : decode cX3_init 24 = .ok (.new 9, 3) := by decide +kernel
theorem dX3_init_27 : decode cX3_init 27 = .ok (.dup, 1) := by decide +kernel
theorem dX3_init_28 : decode cX3_init 28 = .ok (.invokespecial 17, 3) := by decide +kernel
theorem dX3_init_31 : decode cX3_init 31 = .ok (.aastore, 1) := by decide +kernel
theorem dX3_init_32 : decode cX3_init 32 = .ok (.iinc 1 1, 3) := by decide +kernel
theorem dX3_init_35 : decode cX3_init 35 = .ok (.goto (-21), 3) := by decide +kernel
theorem dX3_init_38 : decode cX3_init 38 = .ok (.return_, 1) := by decide +kernel
theorem dX3_count_0 : decode cX3_count 0 = .ok (.aload_n 0, 1) := by decide +kernel
theorem dX3_count_1 : decode cX3_count 1 = .ok (.getfield 18, 3) := by decide +kernel
theorem dX3_count_4 : decode cX3_count 4 = .ok (.ireturn, 1) := by decide +kernel
set_option maxRecDepth 20000 in
theorem ggX3_push_X0_copyFrom : GoodIn wsX3_push wsX0_copyFrom := goodIn_r _ [12, 13, 14, 15, 16, 17, 18, 19, 20, 21, 25, 26, 27, 28, 29] (by decide +kernel) (by decide +kernel)
set_option maxRecDepth 20000 in
theorem gX3_push_X0_copyFrom : GoodIn wsX3_push (wsV RX3 31 RX0 yX0_copyFrom wsX0_copyFrom) := goodIn_app (goodIn_of _ (by decide +kernel)) ggX3_push_X0_copyFrom
theorem dX3_push_0 : decode cX3_push 0 = .ok (.aload_n 0, 1) := by decide +kernel
theorem dX3_push_1 : decode cX3_push 1 = .ok (.aload_n 0, 1) := by decide +kernel
theorem dX3_push_2 : decode cX3_push 2 = .ok (.getfield 22, 3) := by decide +kernel
theorem dX3_push_5 : decode cX3_push 5 = .ok (.iconst 1, 1) := by decide +kernel
theorem dX3_push_6 : decode cX3_push 6 = .ok (.iadd, 1) := by decide +kernel
theorem dX3_push_7 : decode cX3_push 7 = .ok (.iconst 5, 1) := by decide +kernel
theorem dX3_push_8 : decode cX3_push 8 = .ok (.irem, 1) := by decide +kernel
theorem dX3_push_9 : decode cX3_push 9 = .ok (.putfield 22, 3) := by decide +kernel
theorem dX3_push_12 : decode cX3_push 12 = .ok (.aload_n 0, 1) := by decide +kernel
theorem dX3_push_13 : decode cX3_push 13 = .ok (.aload_n 0, 1) := by decide +kernel
theorem dX3_push_14 : decode cX3_push 14 = .ok (.getfield 18, 3) := by decide +kernel
theorem dX3_push_17 : decode cX3_push 17 = .ok (.iconst 1, 1) := by decide +kernel
theorem dX3_push_18 : decode cX3_push 18 = .ok (.iadd, 1) := by decide +kernel
theorem dX3_push_19 : decode cX3_push 19 = .ok (.iconst 5, 1) := by decide +kernel
theorem dX3_push_20 : decode cX3_push 20 = .ok (.invokestatic 25, 3) := by decide +kernel
theorem dX3_push_23 : decode cX3_push 23 = .ok (.putfield 18, 3) := by decide +kernel
theorem dX3_push_26 : decode cX3_push 26 = .ok (.aload_n 0, 1) := by decide +kernel
theorem dX3_push_27 : decode cX3_push 27 = .ok (.getfield 11, 3) := by decide +kernel
theorem dX3_push_30 : decode cX3_push 30 = .ok (.aload_n 0, 1) := by decide +kernel
theorem dX3_push_31 : decode cX3_push 31 = .ok (.getfield 22, 3) := by decide +kernel
theorem dX3_push_34 : decode cX3_push 34 = .ok (.aaload, 1) := by decide +kernel
theorem dX3_push_35 : decode cX3_push 35 = .ok (.aload_n 1, 1) := by decide +kernel
theorem dX3_push_36 : decode cX3_push 36 = .ok (.invokevirtual 31, 3) := by decide +kernel
theorem dX3_push_39 : decode cX3_push 39 = .ok (.return_, 1) := by decide +kernel
set_option maxRecDepth 20000 in
theorem ggX3_pop_X0_copyFrom : GoodIn wsX3_pop wsX0_copyFrom := goodIn_r _ [8, 9, 10, 11, 12, 13, 14, 15, 16, 17, 21, 22, 23, 24, 25] (by decide +kernel) (by decide +kernel)
set_option maxRecDepth 20000 in
theorem gX3_pop_X0_copyFrom : GoodIn wsX3_pop (wsV RX3 31 RX0 yX0_copyFrom wsX0_copyFrom) := goodIn_app (goodIn_of _ (by decide +kernel)) ggX3_pop_X0_copyFrom
theorem dX3_pop_0 : decode cX3_pop 0 = .ok (.aload_n 0, 1) := by decide +kernel
theorem dX3_pop_1 : decode cX3_pop 1 = .ok (.getfield 18, 3) := by decide +kernel
theorem dX3_pop_4 : decode cX3_pop 4 = .ok (.ifCond .le 40, 3) := by decide +kernel
theorem dX3_pop_7 : decode cX3_pop 7 = .ok (.aload_n 1, 1) := by decide +kernel
theorem dX3_pop_8 : decode cX3_pop 8 = .ok (.aload_n 0, 1) := by decide +kernel
theorem dX3_pop_9 : decode cX3_pop 9 = .ok (.getfield 11, 3) := by decide +kernel
theorem dX3_pop_12 : decode cX3_pop 12 = .ok (.aload_n 0, 1) := by decide +kernel
theorem dX3_pop_13 : decode cX3_pop 13 = .ok (.getfield 22, 3) := by decide +kernel
theorem dX3_pop_16 : decode cX3_pop 16 = .ok (.aaload, 1) := by decide +kernel
theorem dX3_pop_17 : decode cX3_pop 17 = .ok (.invokevirtual 31, 3) := by decide +kernel
theorem dX3_pop_20 : decode cX3_pop 20 = .ok (.aload_n 0, 1) := by decide +kernel
theorem dX3_pop_21 : decode cX3_pop 21 = .ok (.aload_n 0, 1) := by decide +kernel
theorem dX3_pop_22 : decode cX3_pop 22 = .ok (.getfield 22, 3) := by decide +kernel
theorem dX3_pop_25 : decode cX3_pop 25 = .ok (.iconst 5, 1) := by decide +kernel
theorem dX3_pop_26 : decode cX3_pop 26 = .ok (.iadd, 1) := by decide +kernel
theorem dX3_pop_27 : decode cX3_pop 27 = .ok (.iconst 1, 1) := by decide +kernel
theorem dX3_pop_28 : decode cX3_pop 28 = .ok (.isub, 1) := by decide +kernel
theorem dX3_pop_29 : decode cX3_pop 29 = .ok (.iconst 5, 1) := by decide +kernel
theorem dX3_pop_30 : decode cX3_pop 30 = .ok (.irem, 1) := by decide +kernel
theorem dX3_pop_31 : decode cX3_pop 31 = .ok (.putfield 22, 3) := by decide +kernel
theorem dX3_pop_34 : decode cX3_pop 34 = .ok (.aload_n 0, 1) := by decide +kernel
theorem dX3_pop_35 : decode cX3_pop 35 = .ok (.dup, 1) := by decide +kernel
theorem dX3_pop_36 : decode cX3_pop 36 = .ok (.getfield 18, 3) := by decide +kernel
theorem dX3_pop_39 : decode cX3_pop 39 = .ok (.iconst 1, 1) := by decide +kernel
theorem dX3_pop_40 : decode cX3_pop 40 = .ok (.isub, 1) := by decide +kernel
theorem dX3_pop_41 : decode cX3_pop 41 = .ok (.putfield 18, 3) := by decide +kernel
theorem dX3_pop_44 : decode cX3_pop 44 = .ok (.return_, 1) := by decide +kernel
theorem dX4_init_0 : decode cX4_init 0 = .ok (.aload_n 0, 1) := by decide +kernel
theorem dX4_init_1 : decode cX4_init 1 = .ok (.invokespecial 3, 3) := by decide +kernel
theorem dX4_init_4 : decode cX4_init 4 = .ok (.aload_n 0, 1) := by decide +kernel
theorem dX4_init_5 : decode cX4_init 5 = .ok (.bipush 120, 2) := by decide +kernel
theorem dX4_init_7 : decode cX4_init 7 = .ok (.newarray .int, 2) := by decide +kernel
theorem dX4_init_9 : decode cX4_init 9 = .ok (.putfield 9, 3) := by decide +kernel
theorem dX4_init_12 : decode cX4_init 12 = .ok (.aload_n 0, 1) := by decide +kernel
theorem dX4_init_13 : decode cX4_init 13 = .ok (.sipush 200, 3) := by decide +kernel
theorem dX4_init_16 : decode cX4_init 16 = .ok (.newarray .int, 2) := by decide +kernel
theorem dX4_init_18 : decode cX4_init 18 = .ok (.putfield 15, 3) := by decide +kernel
theorem dX4_init_21 : decode cX4_init 21 = .ok (.return_, 1) := by decide +kernel
theorem dX4_length_0 : decode cX4_length 0 = .ok (.aload_n 0, 1) := by decide +kernel
theorem dX4_length_1 : decode cX4_length 1 = .ok (.getfield 18, 3) := by decide +kernel
theorem dX4_length_4 : decode cX4_length 4 = .ok (.ireturn, 1) := by decide +kernel
theorem dX4_append_0 : decode cX4_append 0 = .ok (.aload_n 0, 1) := by decide +kernel
theorem dX4_append_1 : decode cX4_append 1 = .ok (.getfield 18, 3) := by decide +kernel
theorem dX4_append_4 : decode cX4_append 4 = .ok (.bipush 120, 2) := by decide +kernel
theorem dX4_append_6 : decode cX4_append 6 = .ok (.if_icmp .ge 23, 3) := by decide +kernel
theorem dX4_append_9 : decode cX4_append 9 = .ok (.aload_n 0, 1) := by decide +kernel
theorem dX4_append_10 : decode cX4_append 10 = .ok (.getfield 9, 3) := by decide +kernel
theorem dX4_append_13 : decode cX4_append 13 = .ok (.aload_n 0, 1) := by decide +kernel
theorem dX4_append_14 : decode cX4_append 14 = .ok (.getfield 18, 3) := by decide +kernel
theorem dX4_append_17 : decode cX4_append 17 = .ok (.iload_n 1, 1) := by decide +kernel
theorem dX4_append_18 : decode cX4_append 18 = .ok (.iastore, 1) := by decide +kernel
theorem dX4_append_19 : decode cX4_append 19 = .ok (.aload_n 0, 1) := by decide +kernel
theorem dX4_append_20 : decode cX4_append 20 = .ok (.dup, 1) := by decide +kernel
theorem dX4_append_21 : decode cX4_append 21 = .ok (.getfield 18, 3) := by decide +kernel
theorem dX4_append_24 : decode cX4_append 24 = .ok (.iconst 1, 1) := by decide +kernel
theorem dX4_append_25 : decode cX4_append 25 = .ok (.iadd, 1) := by decide +kernel
theorem dX4_append_26 : decode cX4_append 26 = .ok (.putfield 18, 3) := by decide +kernel
theorem dX4_append_29 : decode cX4_append 29 = .ok (.aload_n 0, 1) := by decide +kernel
theorem dX4_append_30 : decode cX4_append 30 = .ok (.getfield 18, 3) := by decide +kernel
theorem dX4_append_33 : decode cX4_append 33 = .ok (.ireturn, 1) := by decide +kernel
theorem dX4_wipe_0 : decode cX4_wipe 0 = .ok (.aload_n 0, 1) := by decide +kernel
theorem dX4_wipe_1 : decode cX4_wipe 1 = .ok (.getfield 18, 3) := by decide +kernel
theorem dX4_wipe_4 : decode cX4_wipe 4 = .ok (.istore_n 1, 1) := by decide +kernel
theorem dX4_wipe_5 : decode cX4_wipe 5 = .ok (.aload_n 0, 1) := by decide +kernel
theorem dX4_wipe_6 : decode cX4_wipe 6 = .ok (.iconst 0, 1) := by decide +kernel
theorem dX4_wipe_7 : decode cX4_wipe 7 = .ok (.putfield 18, 3) := by decide +kernel
theorem dX4_wipe_10 : decode cX4_wipe 10 = .ok (.iload_n 1, 1) := by decide +kernel
theorem dX4_wipe_11 : decode cX4_wipe 11 = .ok (.ireturn, 1) := by decide +kernel
theorem dX4_daysTold_0 : decode cX4_daysTold 0 = .ok (.aload_n 0, 1) := by decide +kernel
theorem dX4_daysTold_1 : decode cX4_daysTold 1 = .ok (.getfield 22, 3) := by decide +kernel
theorem dX4_daysTold_4 : decode cX4_daysTold 4 = .ok (.ireturn, 1) := by decide +kernel
set_option maxRecDepth 20000 in
theorem ggX4_note_X5_isMember : GoodIn wsX4_note wsX5_isMember := goodIn_r _ [5, 6, 7, 4, 8] (by decide +kernel) (by decide +kernel)
set_option maxRecDepth 20000 in
theorem gX4_note_X5_isMember_n25 : GoodIn wsX4_note (wsX5_isMember) := ggX4_note_X5_isMember
theorem dX4_note_0 : decode cX4_note 0 = .ok (.iload_n 1, 1) := by decide +kernel
theorem dX4_note_1 : decode cX4_note 1 = .ok (.ifCond .lt 31, 3) := by decide +kernel
theorem dX4_note_4 : decode cX4_note 4 = .ok (.iload_n 1, 1) := by decide +kernel
theorem dX4_note_5 : decode cX4_note 5 = .ok (.aload_n 0, 1) := by decide +kernel
theorem dX4_note_6 : decode cX4_note 6 = .ok (.getfield 22, 3) := by decide +kernel
theorem dX4_note_9 : decode cX4_note 9 = .ok (.if_icmp .ge 23, 3) := by decide +kernel
theorem dX4_note_12 : decode cX4_note 12 = .ok (.iload_n 2, 1) := by decide +kernel
theorem dX4_note_13 : decode cX4_note 13 = .ok (.invokestatic 25, 3) := by decide +kernel
theorem dX4_note_16 : decode cX4_note 16 = .ok (.ifCond .eq 16, 3) := by decide +kernel
theorem dX4_note_19 : decode cX4_note 19 = .ok (.aload_n 0, 1) := by decide +kernel
theorem dX4_note_20 : decode cX4_note 20 = .ok (.getfield 15, 3) := by decide +kernel
theorem dX4_note_23 : decode cX4_note 23 = .ok (.iload_n 1, 1) := by decide +kernel
theorem dX4_note_24 : decode cX4_note 24 = .ok (.iconst 4, 1) := by decide +kernel
theorem dX4_note_25 : decode cX4_note 25 = .ok (.imul, 1) := by decide +kernel
theorem dX4_note_26 : decode cX4_note 26 = .ok (.iload_n 2, 1) := by decide +kernel
theorem dX4_note_27 : decode cX4_note 27 = .ok (.iadd, 1) := by decide +kernel
theorem dX4_note_28 : decode cX4_note 28 = .ok (.iaload, 1) := by decide +kernel
theorem dX4_note_29 : decode cX4_note 29 = .ok (.goto 6, 3) := by decide +kernel
theorem dX4_note_32 : decode cX4_note 32 = .ok (.sipush (-10000), 3) := by decide +kernel
theorem dX4_note_35 : decode cX4_note 35 = .ok (.ireturn, 1) := by decide +kernel
set_option maxRecDepth 20000 in
theorem ggX4_parse_X4_skipBlanks : GoodIn wsX4_parse wsX4_skipBlanks := goodIn_r _ [8, 1, 3, 9, 10, 11, 7, 12, 13, 38, 39, 40, 41, 42] (by decide +kernel) (by decide +kernel)
set_option maxRecDepth 20000 in
theorem gX4_parse_X4_skipBlanks : GoodIn wsX4_parse (wsV RX4 32 RX4 yX4_skipBlanks wsX4_skipBlanks) := goodIn_app (goodIn_of _ (by decide +kernel)) ggX4_parse_X4_skipBlanks
set_option maxRecDepth 20000 in
theorem ggX4_parse_X4_parseDay : GoodIn wsX4_parse wsX4_parseDay := goodIn_r _ [17, 18, 19, 20, 7, 21, 1, 3, 4, 5, 6, 8, 9, 10, 11, 12, 13, 22, 23, 24, 25, 26, 27, 28, 29, 30, 31, 32, 33, 34, 35, 36, 37, 38, 39, 40, 41, 42] (by decide +kernel) (by decide +kernel)
set_option maxRecDepth 20000 in
theorem gX4_parse_X4_parseDay : GoodIn wsX4_parse (wsV RX4 35 RX4 yX4_parseDay wsX4_parseDay) := goodIn_app (goodIn_of _ (by decide +kernel)) ggX4_parse_X4_parseDay
theorem dX4_parse_0 : decode cX4_parse 0 = .ok (.aload_n 0, 1) := by decide +kernel
theorem dX4_parse_1 : decode cX4_parse 1 = .ok (.iconst 0, 1) := by decide +kernel
theorem dX4_parse_2 : decode cX4_parse 2 = .ok (.putfield 29, 3) := by decide +kernel
theorem dX4_parse_5 : decode cX4_parse 5 = .ok (.aload_n 0, 1) := by decide +kernel
theorem dX4_parse_6 : decode cX4_parse 6 = .ok (.iconst 0, 1) := by decide +kernel
theorem dX4_parse_7 : decode cX4_parse 7 = .ok (.putfield 22, 3) := by decide +kernel
theorem dX4_parse_10 : decode cX4_parse 10 = .ok (.aload_n 0, 1) := by decide +kernel
theorem dX4_parse_11 : decode cX4_parse 11 = .ok (.invokevirtual 32, 3) := by decide +kernel
theorem dX4_parse_14 : decode cX4_parse 14 = .ok (.aload_n 0, 1) := by decide +kernel
theorem dX4_parse_15 : decode cX4_parse 15 = .ok (.getfield 29, 3) := by decide +kernel
theorem dX4_parse_18 : decode cX4_parse 18 = .ok (.aload_n 0, 1) := by decide +kernel
theorem dX4_parse_19 : decode cX4_parse 19 = .ok (.getfield 18, 3) := by decide +kernel
theorem dX4_parse_22 : decode cX4_parse 22 = .ok (.if_icmp .ge 7, 3) := by decide +kernel
theorem dX4_parse_25 : decode cX4_parse 25 = .ok (.iconst (-1), 1) := by decide +kernel
theorem dX4_parse_26 : decode cX4_parse 26 = .ok (.goto 7, 3) := by decide +kernel
theorem dX4_parse_29 : decode cX4_parse 29 = .ok (.aload_n 0, 1) := by decide +kernel
theorem dX4_parse_30 : decode cX4_parse 30 = .ok (.getfield 18, 3) := by decide +kernel
theorem dX4_parse_33 : decode cX4_parse 33 = .ok (.istore_n 2, 1) := by decide +kernel
theorem dX4_parse_34 : decode cX4_parse 34 = .ok (.iconst 0, 1) := by decide +kernel
theorem dX4_parse_35 : decode cX4_parse 35 = .ok (.istore_n 3, 1) := by decide +kernel
theorem dX4_parse_36 : decode cX4_parse 36 = .ok (.iload_n 3, 1) := by decide +kernel
theorem dX4_parse_37 : decode cX4_parse 37 = .ok (.bipush 120, 2) := by decide +kernel
theorem dX4_parse_39 : decode cX4_parse 39 = .ok (.if_icmp .ge 77, 3) := by decide +kernel
theorem dX4_parse_42 : decode cX4_parse 42 = .ok (.aload_n 0, 1) := by decide +kernel
theorem dX4_parse_43 : decode cX4_parse 43 = .ok (.getfield 29, 3) := by decide +kernel
theorem dX4_parse_46 : decode cX4_parse 46 = .ok (.aload_n 0, 1) := by decide +kernel
theorem dX4_parse_47 : decode cX4_parse 47 = .ok (.getfield 18, 3) := by decide +kernel
theorem dX4_parse_50 : decode cX4_parse 50 = .ok (.if_icmp .ge 66, 3) := by decide +kernel
theorem dX4_parse_53 : decode cX4_parse 53 = .ok (.iload_n 2, 1) := by decide +kernel
theorem dX4_parse_54 : decode cX4_parse 54 = .ok (.iconst (-1), 1) := by decide +kernel
theorem dX4_parse_55 : decode cX4_parse 55 = .ok (.if_icmp .ne 61, 3) := by decide +kernel
theorem dX4_parse_58 : decode cX4_parse 58 = .ok (.aload_n 0, 1) := by decide +kernel
theorem dX4_parse_59 : decode cX4_parse 59 = .ok (.getfield 22, 3) := by decide +kernel
theorem dX4_parse_62 : decode cX4_parse 62 = .ok (.iload_n 1, 1) := by decide +kernel
theorem dX4_parse_63 : decode cX4_parse 63 = .ok (.if_icmp .ge 23, 3) := by decide +kernel
theorem dX4_parse_66 : decode cX4_parse 66 = .ok (.aload_n 0, 1) := by decide +kernel
theorem dX4_parse_67 : decode cX4_parse 67 = .ok (.getfield 22, 3) := by decide +kernel
theorem dX4_parse_70 : decode cX4_parse 70 = .ok (.bipush 50, 2) := by decide +kernel
theorem dX4_parse_72 : decode cX4_parse 72 = .ok (.if_icmp .ge 14, 3) := by decide +kernel
theorem dX4_parse_75 : decode cX4_parse 75 = .ok (.aload_n 0, 1) := by decide +kernel
theorem dX4_parse_76 : decode cX4_parse 76 = .ok (.aload_n 0, 1) := by decide +kernel
theorem dX4_parse_77 : decode cX4_parse 77 = .ok (.getfield 22, 3) := by decide +kernel
theorem dX4_parse_80 : decode cX4_parse 80 = .ok (.invokevirtual 35, 3) := by decide +kernel
theorem dX4_parse_83 : decode cX4_parse 83 = .ok (.goto 7, 3) := by decide +kernel
theorem dX4_parse_86 : decode cX4_parse 86 = .ok (.aload_n 0, 1) := by decide +kernel
theorem dX4_parse_87 : decode cX4_parse 87 = .ok (.getfield 29, 3) := by decide +kernel
theorem dX4_parse_90 : decode cX4_parse 90 = .ok (.istore_n 2, 1) := by decide +kernel
theorem dX4_parse_91 : decode cX4_parse 91 = .ok (.iload_n 2, 1) := by decide +kernel
theorem dX4_parse_92 : decode cX4_parse 92 = .ok (.iconst (-1), 1) := by decide +kernel
theorem dX4_parse_93 : decode cX4_parse 93 = .ok (.if_icmp .ne 17, 3) := by decide +kernel
theorem dX4_parse_96 : decode cX4_parse 96 = .ok (.aload_n 0, 1) := by decide +kernel
theorem dX4_parse_97 : decode cX4_parse 97 = .ok (.dup, 1) := by decide +kernel
theorem dX4_parse_98 : decode cX4_parse 98 = .ok (.getfield 22, 3) := by decide +kernel
theorem dX4_parse_101 : decode cX4_parse 101 = .ok (.iconst 1, 1) := by decide +kernel
theorem dX4_parse_102 : decode cX4_parse 102 = .ok (.iadd, 1) := by decide +kernel
theorem dX4_parse_103 : decode cX4_parse 103 = .ok (.putfield 22, 3) := by decide +kernel
theorem dX4_parse_106 : decode cX4_parse 106 = .ok (.aload_n 0, 1) := by decide +kernel
theorem dX4_parse_107 : decode cX4_parse 107 = .ok (.invokevirtual 32, 3) := by decide +kernel
theorem dX4_parse_110 : decode cX4_parse 110 = .ok (.iinc 3 1, 3) := by decide +kernel
theorem dX4_parse_113 : decode cX4_parse 113 = .ok (.goto (-77), 3) := by decide +kernel
theorem dX4_parse_116 : decode cX4_parse 116 = .ok (.iload_n 2, 1) := by decide +kernel
theorem dX4_parse_117 : decode cX4_parse 117 = .ok (.ireturn, 1) := by decide +kernel
set_option maxRecDepth 20000 in
theorem ggX4_parseDay_X4_parseMember : GoodIn wsX4_parseDay wsX4_parseMember := goodIn_r _ [5, 6, 7, 8, 9, 10, 4, 11, 12, 13, 14, 15, 16, 17, 18, 19, 20, 21, 22, 23, 24, 25, 26, 27, 28, 33, 34, 35, 36, 37] (by decide +kernel) (by decide +kernel)
set_option maxRecDepth 20000 in
theorem gX4_parseDay_X4_parseMember : GoodIn wsX4_parseDay (wsV RX4 39 RX4 yX4_parseMember wsX4_parseMember) := goodIn_app (goodIn_of _ (by decide +kernel)) ggX4_parseDay_X4_parseMember
set_option maxRecDepth 20000 in
theorem ggX4_parseDay_X4_parseMark : GoodIn wsX4_parseDay wsX4_parseMark := goodIn_r _ [32, 6, 8, 9, 10, 4, 11, 7, 12, 13, 14, 15, 16, 33, 34, 35, 36, 37] (by decide +kernel) (by decide +kernel)
set_option maxRecDepth 20000 in
theorem gX4_parseDay_X4_parseMark : GoodIn wsX4_parseDay (wsV RX4 42 RX4 yX4_parseMark wsX4_parseMark) := goodIn_app (goodIn_of _ (by decide +kernel)) ggX4_parseDay_X4_parseMark
theorem dX4_parseDay_0 : decode cX4_parseDay 0 = .ok (.iconst (-1), 1) := by decide +kernel
theorem dX4_parseDay_1 : decode cX4_parseDay 1 = .ok (.istore_n 2, 1) := by decide +kernel
theorem dX4_parseDay_2 : decode cX4_parseDay 2 = .ok (.iconst 0, 1) := by decide +kernel
theorem dX4_parseDay_3 : decode cX4_parseDay 3 = .ok (.istore_n 3, 1) := by decide +kernel
theorem dX4_parseDay_4 : decode cX4_parseDay 4 = .ok (.iload_n 3, 1) := by decide +kernel
theorem dX4_parseDay_5 : decode cX4_parseDay 5 = .ok (.iconst 4, 1) := by decide +kernel
theorem dX4_parseDay_6 : decode cX4_parseDay 6 = .ok (.if_icmp .ge 46, 3) := by decide +kernel
theorem dX4_parseDay_9 : decode cX4_parseDay 9 = .ok (.iload_n 2, 1) := by decide +kernel
theorem dX4_parseDay_10 : decode cX4_parseDay 10 = .ok (.iconst (-1), 1) := by decide +kernel
theorem dX4_parseDay_11 : decode cX4_parseDay 11 = .ok (.if_icmp .ne 41, 3) := by decide +kernel
theorem dX4_parseDay_14 : decode cX4_parseDay 14 = .ok (.aload_n 0, 1) := by decide +kernel
theorem dX4_parseDay_15 : decode cX4_parseDay 15 = .ok (.iload_n 1, 1) := by decide +kernel
theorem dX4_parseDay_16 : decode cX4_parseDay 16 = .ok (.iconst 4, 1) := by decide +kernel
theorem dX4_parseDay_17 : decode cX4_parseDay 17 = .ok (.imul, 1) := by decide +kernel
theorem dX4_parseDay_18 : decode cX4_parseDay 18 = .ok (.iload_n 3, 1) := by decide +kernel
theorem dX4_parseDay_19 : decode cX4_parseDay 19 = .ok (.iadd, 1) := by decide +kernel
theorem dX4_parseDay_20 : decode cX4_parseDay 20 = .ok (.invokevirtual 39, 3) := by decide +kernel
theorem dX4_parseDay_23 : decode cX4_parseDay 23 = .ok (.istore_n 2, 1) := by decide +kernel
