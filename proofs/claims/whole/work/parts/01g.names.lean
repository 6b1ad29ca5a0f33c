theorem dX6_type_14 : decode cX6_type 14 = .ok (.ireturn, 1) := by decide +kernel
theorem dX6_type_15 : decode cX6_type 15 = .ok (.aload_n 0, 1) := by decide +kernel
theorem dX6_type_16 : decode cX6_type 16 = .ok (.getfield 166, 3) := by decide +kernel
theorem dX6_type_19 : decode cX6_type 19 = .ok (.bipush 120, 2) := by decide +kernel
theorem dX6_type_21 : decode cX6_type 21 = .ok (.if_icmp .ne 8, 3) := by decide +kernel
theorem dX6_type_24 : decode cX6_type 24 = .ok (.aload_n 0, 1) := by decide +kernel
theorem dX6_type_25 : decode cX6_type 25 = .ok (.invokevirtual 63, 3) := by decide +kernel
theorem dX6_type_28 : decode cX6_type 28 = .ok (.ireturn, 1) := by decide +kernel
theorem dX6_type_29 : decode cX6_type 29 = .ok (.aload_n 0, 1) := by decide +kernel
theorem dX6_type_30 : decode cX6_type 30 = .ok (.getfield 38, 3) := by decide +kernel
theorem dX6_type_33 : decode cX6_type 33 = .ok (.aload_n 0, 1) := by decide +kernel
theorem dX6_type_34 : decode cX6_type 34 = .ok (.getfield 166, 3) := by decide +kernel
theorem dX6_type_37 : decode cX6_type 37 = .ok (.iload_n 1, 1) := by decide +kernel
theorem dX6_type_38 : decode cX6_type 38 = .ok (.iastore, 1) := by decide +kernel
theorem dX6_type_39 : decode cX6_type 39 = .ok (.aload_n 0, 1) := by decide +kernel
theorem dX6_type_40 : decode cX6_type 40 = .ok (.dup, 1) := by decide +kernel
theorem dX6_type_41 : decode cX6_type 41 = .ok (.getfield 166, 3) := by decide +kernel
theorem dX6_type_44 : decode cX6_type 44 = .ok (.iconst 1, 1) := by decide +kernel
theorem dX6_type_45 : decode cX6_type 45 = .ok (.iadd, 1) := by decide +kernel
theorem dX6_type_46 : decode cX6_type 46 = .ok (.putfield 166, 3) := by decide +kernel
theorem dX6_type_49 : decode cX6_type 49 = .ok (.aload_n 0, 1) := by decide +kernel
theorem dX6_type_50 : decode cX6_type 50 = .ok (.getfield 166, 3) := by decide +kernel
theorem dX6_type_53 : decode cX6_type 53 = .ok (.ireturn, 1) := by decide +kernel
theorem dX6_clear_0 : decode cX6_clear 0 = .ok (.aload_n 0, 1) := by decide +kernel
theorem dX6_clear_1 : decode cX6_clear 1 = .ok (.getfield 166, 3) := by decide +kernel
theorem dX6_clear_4 : decode cX6_clear 4 = .ok (.istore_n 1, 1) := by decide +kernel
theorem dX6_clear_5 : decode cX6_clear 5 = .ok (.aload_n 0, 1) := by decide +kernel
theorem dX6_clear_6 : decode cX6_clear 6 = .ok (.iconst 0, 1) := by decide +kernel
theorem dX6_clear_7 : decode cX6_clear 7 = .ok (.putfield 166, 3) := by decide +kernel
theorem dX6_clear_10 : decode cX6_clear 10 = .ok (.iload_n 1, 1) := by decide +kernel
theorem dX6_clear_11 : decode cX6_clear 11 = .ok (.ireturn, 1) := by decide +kernel
theorem dX6_here_0 : decode cX6_here 0 = .ok (.aload_n 0, 1) := by decide +kernel
theorem dX6_here_1 : decode cX6_here 1 = .ok (.getfield 169, 3) := by decide +kernel
theorem dX6_here_4 : decode cX6_here 4 = .ok (.aload_n 0, 1) := by decide +kernel
theorem dX6_here_5 : decode cX6_here 5 = .ok (.getfield 166, 3) := by decide +kernel
theorem dX6_here_8 : decode cX6_here 8 = .ok (.if_icmp .ge 15, 3) := by decide +kernel
theorem dX6_here_11 : decode cX6_here 11 = .ok (.aload_n 0, 1) := by decide +kernel
theorem dX6_here_12 : decode cX6_here 12 = .ok (.getfield 38, 3) := by decide +kernel
theorem dX6_here_15 : decode cX6_here 15 = .ok (.aload_n 0, 1) := by decide +kernel
theorem dX6_here_16 : decode cX6_here 16 = .ok (.getfield 169, 3) := by decide +kernel
theorem dX6_here_19 : decode cX6_here 19 = .ok (.iaload, 1) := by decide +kernel
theorem dX6_here_20 : decode cX6_here 20 = .ok (.goto 4, 3) := by decide +kernel
theorem dX6_here_23 : decode cX6_here 23 = .ok (.iconst (-1), 1) := by decide +kernel
theorem dX6_here_24 : decode cX6_here 24 = .ok (.ireturn, 1) := by decide +kernel
set_option maxRecDepth 20000 in
theorem ggX6_skips_X6_here : GoodIn wsX6_skips wsX6_here := goodIn_r _ [7, 1, 8, 9, 10, 11, 12, 13, 14, 15, 16, 17, 18, 19, 20, 21, 22, 23, 24, 25, 26, 27, 28, 29, 30] (by decide +kernel) (by decide +kernel)
set_option maxRecDepth 20000 in
theorem gX6_skips_X6_here : GoodIn wsX6_skips (wsV RX6 172 RX6 yX6_here wsX6_here) := goodIn_app (goodIn_of _ (by decide +kernel)) ggX6_skips_X6_here
theorem dX6_skips_0 : decode cX6_skips 0 = .ok (.aload_n 0, 1) := by decide +kernel
theorem dX6_skips_1 : decode cX6_skips 1 = .ok (.invokevirtual 172, 3) := by decide +kernel
theorem dX6_skips_4 : decode cX6_skips 4 = .ok (.bipush 32, 2) := by decide +kernel
theorem dX6_skips_6 : decode cX6_skips 6 = .ok (.if_icmp .ne 16, 3) := by decide +kernel
theorem dX6_skips_9 : decode cX6_skips 9 = .ok (.aload_n 0, 1) := by decide +kernel
theorem dX6_skips_10 : decode cX6_skips 10 = .ok (.dup, 1) := by decide +kernel
theorem dX6_skips_11 : decode cX6_skips 11 = .ok (.getfield 169, 3) := by decide +kernel
theorem dX6_skips_14 : decode cX6_skips 14 = .ok (.iconst 1, 1) := by decide +kernel
theorem dX6_skips_15 : decode cX6_skips 15 = .ok (.iadd, 1) := by decide +kernel
theorem dX6_skips_16 : decode cX6_skips 16 = .ok (.putfield 169, 3) := by decide +kernel
theorem dX6_skips_19 : decode cX6_skips 19 = .ok (.goto (-19), 3) := by decide +kernel
theorem dX6_skips_22 : decode cX6_skips 22 = .ok (.aload_n 0, 1) := by decide +kernel
theorem dX6_skips_23 : decode cX6_skips 23 = .ok (.aload_n 0, 1) := by decide +kernel
theorem dX6_skips_24 : decode cX6_skips 24 = .ok (.getfield 169, 3) := by decide +kernel
theorem dX6_skips_27 : decode cX6_skips 27 = .ok (.putfield 175, 3) := by decide +kernel
theorem dX6_skips_30 : decode cX6_skips 30 = .ok (.return_, 1) := by decide +kernel
set_option maxRecDepth 20000 in
theorem ggX6_readsMember_X6_skips : GoodIn wsX6_readsMember wsX6_skips := goodIn_r _ [7, 1, 8, 9, 10, 11, 6, 12, 13, 14, 18, 19, 20, 21, 22, 23, 24, 25, 26, 27, 28, 29, 30, 31, 32, 33, 34, 35, 36, 37, 38] (by decide +kernel) (by decide +kernel)
set_option maxRecDepth 20000 in
theorem gX6_readsMember_X6_skips : GoodIn wsX6_readsMember (wsV RX6 178 RX6 yX6_skips wsX6_skips) := goodIn_app (goodIn_of _ (by decide +kernel)) ggX6_readsMember_X6_skips
set_option maxRecDepth 20000 in
theorem ggX6_readsMember_X6_here : GoodIn wsX6_readsMember wsX6_here := goodIn_r _ [12, 1, 13, 14, 18, 19, 20, 21, 22, 23, 24, 25, 26, 27, 28, 29, 30, 31, 32, 33, 34, 35, 36, 37, 38] (by decide +kernel) (by decide +kernel)
set_option maxRecDepth 20000 in
theorem gX6_readsMember_X6_here : GoodIn wsX6_readsMember (wsV RX6 172 RX6 yX6_here wsX6_here) := goodIn_app (goodIn_of _ (by decide +kernel)) ggX6_readsMember_X6_here
set_option maxRecDepth 20000 in
theorem ggX6_readsMember_X6_in : GoodIn wsX6_readsMember wsX6_in := goodIn_r _ [17] (by decide +kernel) (by decide +kernel)
set_option maxRecDepth 20000 in
theorem gX6_readsMember_X6_in : GoodIn wsX6_readsMember (va_wsS RX6 44 yX6_in wsX6_in) := goodIn_app (goodIn_of _ (by decide +kernel)) ggX6_readsMember_X6_in
theorem dX6_readsMember_0 : decode cX6_readsMember 0 = .ok (.aload_n 0, 1) := by decide +kernel
theorem dX6_readsMember_1 : decode cX6_readsMember 1 = .ok (.invokevirtual 178, 3) := by decide +kernel
theorem dX6_readsMember_4 : decode cX6_readsMember 4 = .ok (.aload_n 0, 1) := by decide +kernel
theorem dX6_readsMember_5 : decode cX6_readsMember 5 = .ok (.invokevirtual 172, 3) := by decide +kernel
theorem dX6_readsMember_8 : decode cX6_readsMember 8 = .ok (.bipush 46, 2) := by decide +kernel
theorem dX6_readsMember_10 : decode cX6_readsMember 10 = .ok (.if_icmp .ne 24, 3) := by decide +kernel
theorem dX6_readsMember_13 : decode cX6_readsMember 13 = .ok (.aload_n 0, 1) := by decide +kernel
theorem dX6_readsMember_14 : decode cX6_readsMember 14 = .ok (.dup, 1) := by decide +kernel
theorem dX6_readsMember_15 : decode cX6_readsMember 15 = .ok (.getfield 169, 3) := by decide +kernel
theorem dX6_readsMember_18 : decode cX6_readsMember 18 = .ok (.iconst 1, 1) := by decide +kernel
theorem dX6_readsMember_19 : decode cX6_readsMember 19 = .ok (.iadd, 1) := by decide +kernel
theorem dX6_readsMember_20 : decode cX6_readsMember 20 = .ok (.putfield 169, 3) := by decide +kernel
theorem dX6_readsMember_23 : decode cX6_readsMember 23 = .ok (.aload_n 0, 1) := by decide +kernel
theorem dX6_readsMember_24 : decode cX6_readsMember 24 = .ok (.getfield 41, 3) := by decide +kernel
theorem dX6_readsMember_27 : decode cX6_readsMember 27 = .ok (.iload_n 1, 1) := by decide +kernel
theorem dX6_readsMember_28 : decode cX6_readsMember 28 = .ok (.sipush (-10000), 3) := by decide +kernel
theorem dX6_readsMember_31 : decode cX6_readsMember 31 = .ok (.iastore, 1) := by decide +kernel
theorem dX6_readsMember_32 : decode cX6_readsMember 32 = .ok (.iconst 1, 1) := by decide +kernel
theorem dX6_readsMember_33 : decode cX6_readsMember 33 = .ok (.ireturn, 1) := by decide +kernel
theorem dX6_readsMember_34 : decode cX6_readsMember 34 = .ok (.aload_n 0, 1) := by decide +kernel
theorem dX6_readsMember_35 : decode cX6_readsMember 35 = .ok (.invokevirtual 172, 3) := by decide +kernel
theorem dX6_readsMember_38 : decode cX6_readsMember 38 = .ok (.bipush 45, 2) := by decide +kernel
theorem dX6_readsMember_40 : decode cX6_readsMember 40 = .ok (.if_icmp .ne 7, 3) := by decide +kernel
theorem dX6_readsMember_43 : decode cX6_readsMember 43 = .ok (.iconst 1, 1) := by decide +kernel
theorem dX6_readsMember_44 : decode cX6_readsMember 44 = .ok (.goto 4, 3) := by decide +kernel
theorem dX6_readsMember_47 : decode cX6_readsMember 47 = .ok (.iconst 0, 1) := by decide +kernel
theorem dX6_readsMember_48 : decode cX6_readsMember 48 = .ok (.istore_n 2, 1) := by decide +kernel
theorem dX6_readsMember_49 : decode cX6_readsMember 49 = .ok (.aload_n 0, 1) := by decide +kernel
theorem dX6_readsMember_50 : decode cX6_readsMember 50 = .ok (.dup, 1) := by decide +kernel
theorem dX6_readsMember_51 : decode cX6_readsMember 51 = .ok (.getfield 169, 3) := by decide +kernel
theorem dX6_readsMember_54 : decode cX6_readsMember 54 = .ok (.iload_n 2, 1) := by decide +kernel
theorem dX6_readsMember_55 : decode cX6_readsMember 55 = .ok (.ifCond .eq 7, 3) := by decide +kernel
theorem dX6_readsMember_58 : decode cX6_readsMember 58 = .ok (.iconst 1, 1) := by decide +kernel
theorem dX6_readsMember_59 : decode cX6_readsMember 59 = .ok (.goto 4, 3) := by decide +kernel
theorem dX6_readsMember_62 : decode cX6_readsMember 62 = .ok (.iconst 0, 1) := by decide +kernel
theorem dX6_readsMember_63 : decode cX6_readsMember 63 = .ok (.iadd, 1) := by decide +kernel
theorem dX6_readsMember_64 : decode cX6_readsMember 64 = .ok (.putfield 169, 3) := by decide +kernel
theorem dX6_readsMember_67 : decode cX6_readsMember 67 = .ok (.iconst 0, 1) := by decide +kernel
theorem dX6_readsMember_68 : decode cX6_readsMember 68 = .ok (.istore_n 3, 1) := by decide +kernel
theorem dX6_readsMember_69 : decode cX6_readsMember 69 = .ok (.iconst 0, 1) := by decide +kernel
theorem dX6_readsMember_70 : decode cX6_readsMember 70 = .ok (.istore 4, 2) := by decide +kernel
theorem dX6_readsMember_72 : decode cX6_readsMember 72 = .ok (.aload_n 0, 1) := by decide +kernel
theorem dX6_readsMember_73 : decode cX6_readsMember 73 = .ok (.invokevirtual 172, 3) := by decide +kernel
theorem dX6_readsMember_76 : decode cX6_readsMember 76 = .ok (.bipush 48, 2) := by decide +kernel
theorem dX6_readsMember_78 : decode cX6_readsMember 78 = .ok (.bipush 57, 2) := by decide +kernel
theorem dX6_readsMember_80 : decode cX6_readsMember 80 = .ok (.invokestatic 44, 3) := by decide +kernel
theorem dX6_readsMember_83 : decode cX6_readsMember 83 = .ok (.ifCond .eq 44, 3) := by decide +kernel
theorem dX6_readsMember_86 : decode cX6_readsMember 86 = .ok (.iload_n 3, 1) := by decide +kernel
theorem dX6_readsMember_87 : decode cX6_readsMember 87 = .ok (.iconst 3, 1) := by decide +kernel
theorem dX6_readsMember_88 : decode cX6_readsMember 88 = .ok (.if_icmp .ge 19, 3) := by decide +kernel
theorem dX6_readsMember_91 : decode cX6_readsMember 91 = .ok (.bipush 10, 2) := by decide +kernel
theorem dX6_readsMember_93 : decode cX6_readsMember 93 = .ok (.iload 4, 2) := by decide +kernel
theorem dX6_readsMember_95 : decode cX6_readsMember 95 = .ok (.imul, 1) := by decide +kernel
theorem dX6_readsMember_96 : decode cX6_readsMember 96 = .ok (.aload_n 0, 1) := by decide +kernel
theorem dX6_readsMember_97 : decode cX6_readsMember 97 = .ok (.invokevirtual 172, 3) := by decide +kernel
theorem dX6_readsMember_100 : decode cX6_readsMember 100 = .ok (.iadd, 1) := by decide +kernel
theorem dX6_readsMember_101 : decode cX6_readsMember 101 = .ok (.bipush 48, 2) := by decide +kernel
theorem dX6_readsMember_103 : decode cX6_readsMember 103 = .ok (.isub, 1) := by decide +kernel
theorem dX6_readsMember_104 : decode cX6_readsMember 104 = .ok (.goto 5, 3) := by decide +kernel
theorem dX6_readsMember_107 : decode cX6_readsMember 107 = .ok (.iload 4, 2) := by decide +kernel
theorem dX6_readsMember_109 : decode cX6_readsMember 109 = .ok (.istore 4, 2) := by decide +kernel
theorem dX6_readsMember_111 : decode cX6_readsMember 111 = .ok (.iinc 3 1, 3) := by decide +kernel
theorem dX6_readsMember_114 : decode cX6_readsMember 114 = .ok (.aload_n 0, 1) := by decide +kernel
theorem dX6_readsMember_115 : decode cX6_readsMember 115 = .ok (.dup, 1) := by decide +kernel
theorem dX6_readsMember_116 : decode cX6_readsMember 116 = .ok (.getfield 169, 3) := by decide +kernel
theorem dX6_readsMember_119 : decode cX6_readsMember 119 = .ok (.iconst 1, 1) := by decide +kernel
theorem dX6_readsMember_120 : decode cX6_readsMember 120 = .ok (.iadd, 1) := by decide +kernel
theorem dX6_readsMember_121 : decode cX6_readsMember 121 = .ok (.putfield 169, 3) := by decide +kernel
theorem dX6_readsMember_124 : decode cX6_readsMember 124 = .ok (.goto (-52), 3) := by decide +kernel
theorem dX6_readsMember_127 : decode cX6_readsMember 127 = .ok (.aload_n 0, 1) := by decide +kernel
theorem dX6_readsMember_128 : decode cX6_readsMember 128 = .ok (.getfield 41, 3) := by decide +kernel
theorem dX6_readsMember_131 : decode cX6_readsMember 131 = .ok (.iload_n 1, 1) := by decide +kernel
theorem dX6_readsMember_132 : decode cX6_readsMember 132 = .ok (.iload_n 2, 1) := by decide +kernel
theorem dX6_readsMember_133 : decode cX6_readsMember 133 = .ok (.ifCond .eq 9, 3) := by decide +kernel
theorem dX6_readsMember_136 : decode cX6_readsMember 136 = .ok (.iload 4, 2) := by decide +kernel
theorem dX6_readsMember_138 : decode cX6_readsMember 138 = .ok (.ineg, 1) := by decide +kernel
theorem dX6_readsMember_139 : decode cX6_readsMember 139 = .ok (.goto 5, 3) := by decide +kernel
theorem dX6_readsMember_142 : decode cX6_readsMember 142 = .ok (.iload 4, 2) := by decide +kernel
theorem dX6_readsMember_144 : decode cX6_readsMember 144 = .ok (.iastore, 1) := by decide +kernel
theorem dX6_readsMember_145 : decode cX6_readsMember 145 = .ok (.iload_n 3, 1) := by decide +kernel
theorem dX6_readsMember_146 : decode cX6_readsMember 146 = .ok (.iconst 1, 1) := by decide +kernel
theorem dX6_readsMember_147 : decode cX6_readsMember 147 = .ok (.iconst 3, 1) := by decide +kernel
theorem dX6_readsMember_148 : decode cX6_readsMember 148 = .ok (.invokestatic 44, 3) := by decide +kernel
theorem dX6_readsMember_151 : decode cX6_readsMember 151 = .ok (.ireturn, 1) := by decide +kernel
set_option maxRecDepth 20000 in
theorem ggX6_readsDay_X6_skips : GoodIn wsX6_readsDay wsX6_skips := goodIn_r _ [8, 2, 9, 10, 11, 12, 7, 13, 14, 15, 29, 30, 31, 32, 33, 34, 35, 36, 37, 38, 39, 40, 41, 42, 43, 44, 45, 46, 47, 48, 49] (by decide +kernel) (by decide +kernel)
set_option maxRecDepth 20000 in
theorem gX6_readsDay_X6_skips : GoodIn wsX6_readsDay (wsV RX6 178 RX6 yX6_skips wsX6_skips) := goodIn_app (goodIn_of _ (by decide +kernel)) ggX6_readsDay_X6_skips
set_option maxRecDepth 20000 in
theorem ggX6_readsDay_X6_readsMember : GoodIn wsX6_readsDay wsX6_readsMember := goodIn_r _ [19, 2, 3, 4, 5, 6, 7, 8, 9, 10, 11, 12, 13, 14, 15, 20, 21, 22, 29, 30, 31, 32, 33, 34, 35, 36, 37, 38, 39, 40, 41, 42, 43, 44, 45, 46, 47, 48, 49] (by decide +kernel) (by decide +kernel)
set_option maxRecDepth 20000 in
theorem gX6_readsDay_X6_readsMember : GoodIn wsX6_readsDay (wsV RX6 184 RX6 yX6_readsMember wsX6_readsMember) := goodIn_app (goodIn_of _ (by decide +kernel)) ggX6_readsDay_X6_readsMember
set_option maxRecDepth 20000 in
theorem ggX6_readsDay_X6_here : GoodIn wsX6_readsDay wsX6_here := goodIn_r _ [13, 2, 14, 15, 29, 30, 31, 32, 33, 34, 35, 36, 37, 38, 39, 40, 41, 42, 43, 44, 45, 46, 47, 48, 49] (by decide +kernel) (by decide +kernel)
set_option maxRecDepth 20000 in
theorem gX6_readsDay_X6_here : GoodIn wsX6_readsDay (wsV RX6 172 RX6 yX6_here wsX6_here) := goodIn_app (goodIn_of _ (by decide +kernel)) ggX6_readsDay_X6_here
set_option maxRecDepth 20000 in
theorem ggX6_readsDay_X6_comes : GoodIn wsX6_readsDay wsX6_comes := goodIn_r _ [26, 27, 28, 29, 30, 31, 32, 33, 34, 35, 36, 37, 38, 39, 40, 41, 42, 43, 44, 45, 46, 47, 48, 49] (by decide +kernel) (by decide +kernel)
set_option maxRecDepth 20000 in
theorem gX6_readsDay_X6_comes : GoodIn wsX6_readsDay (wsV RX6 69 RX6 yX6_comes wsX6_comes) := goodIn_app (goodIn_of _ (by decide +kernel)) ggX6_readsDay_X6_comes
theorem dX6_readsDay_0 : decode cX6_readsDay 0 = .ok (.aload_n 0, 1) := by decide +kernel
theorem dX6_readsDay_1 : decode cX6_readsDay 1 = .ok (.invokevirtual 178, 3) := by decide +kernel
theorem dX6_readsDay_4 : decode cX6_readsDay 4 = .ok (.aload_n 0, 1) := by decide +kernel
theorem dX6_readsDay_5 : decode cX6_readsDay 5 = .ok (.getfield 181, 3) := by decide +kernel
theorem dX6_readsDay_8 : decode cX6_readsDay 8 = .ok (.bipush 50, 2) := by decide +kernel
theorem dX6_readsDay_10 : decode cX6_readsDay 10 = .ok (.if_icmp .ne 5, 3) := by decide +kernel
theorem dX6_readsDay_13 : decode cX6_readsDay 13 = .ok (.iconst 0, 1) := by decide +kernel
theorem dX6_readsDay_14 : decode cX6_readsDay 14 = .ok (.ireturn, 1) := by decide +kernel
theorem dX6_readsDay_15 : decode cX6_readsDay 15 = .ok (.iconst 0, 1) := by decide +kernel
theorem dX6_readsDay_16 : decode cX6_readsDay 16 = .ok (.istore_n 2, 1) := by decide +kernel
theorem dX6_readsDay_17 : decode cX6_readsDay 17 = .ok (.iload_n 2, 1) := by decide +kernel
theorem dX6_readsDay_18 : decode cX6_readsDay 18 = .ok (.iconst 4, 1) := by decide +kernel
theorem dX6_readsDay_19 : decode cX6_readsDay 19 = .ok (.if_icmp .ge 54, 3) := by decide +kernel
theorem dX6_readsDay_22 : decode cX6_readsDay 22 = .ok (.aload_n 0, 1) := by decide +kernel
theorem dX6_readsDay_23 : decode cX6_readsDay 23 = .ok (.iload_n 2, 1) := by decide +kernel
theorem dX6_readsDay_24 : decode cX6_readsDay 24 = .ok (.invokevirtual 184, 3) := by decide +kernel
theorem dX6_readsDay_27 : decode cX6_readsDay 27 = .ok (.ifCond .ne 5, 3) := by decide +kernel
theorem dX6_readsDay_30 : decode cX6_readsDay 30 = .ok (.iconst 0, 1) := by decide +kernel
theorem dX6_readsDay_31 : decode cX6_readsDay 31 = .ok (.ireturn, 1) := by decide +kernel
theorem dX6_readsDay_32 : decode cX6_readsDay 32 = .ok (.aload_n 0, 1) := by decide +kernel
theorem dX6_readsDay_33 : decode cX6_readsDay 33 = .ok (.invokevirtual 178, 3) := by decide +kernel
theorem dX6_readsDay_36 : decode cX6_readsDay 36 = .ok (.aload_n 0, 1) := by decide +kernel
theorem dX6_readsDay_37 : decode cX6_readsDay 37 = .ok (.invokevirtual 172, 3) := by decide +kernel
theorem dX6_readsDay_40 : decode cX6_readsDay 40 = .ok (.iload_n 2, 1) := by decide +kernel
theorem dX6_readsDay_41 : decode cX6_readsDay 41 = .ok (.iconst 3, 1) := by decide +kernel
theorem dX6_readsDay_42 : decode cX6_readsDay 42 = .ok (.if_icmp .ne 8, 3) := by decide +kernel
theorem dX6_readsDay_45 : decode cX6_readsDay 45 = .ok (.bipush 59, 2) := by decide +kernel
theorem dX6_readsDay_47 : decode cX6_readsDay 47 = .ok (.goto 5, 3) := by decide +kernel
theorem dX6_readsDay_50 : decode cX6_readsDay 50 = .ok (.bipush 44, 2) := by decide +kernel
theorem dX6_readsDay_52 : decode cX6_readsDay 52 = .ok (.if_icmp .eq 5, 3) := by decide +kernel
theorem dX6_readsDay_55 : decode cX6_readsDay 55 = .ok (.iconst 0, 1) := by decide +kernel
theorem dX6_readsDay_56 : decode cX6_readsDay 56 = .ok (.ireturn, 1) := by decide +kernel
theorem dX6_readsDay_57 : decode cX6_readsDay 57 = .ok (.aload_n 0, 1) := by decide +kernel
theorem dX6_readsDay_58 : decode cX6_readsDay 58 = .ok (.dup, 1) := by decide +kernel
theorem dX6_readsDay_59 : decode cX6_readsDay 59 = .ok (.getfield 169, 3) := by decide +kernel
theorem dX6_readsDay_62 : decode cX6_readsDay 62 = .ok (.iconst 1, 1) := by decide +kernel
theorem dX6_readsDay_63 : decode cX6_readsDay 63 = .ok (.iadd, 1) := by decide +kernel
theorem dX6_readsDay_64 : decode cX6_readsDay 64 = .ok (.putfield 169, 3) := by decide +kernel
theorem dX6_readsDay_67 : decode cX6_readsDay 67 = .ok (.iinc 2 1, 3) := by decide +kernel
theorem dX6_readsDay_70 : decode cX6_readsDay 70 = .ok (.goto (-53), 3) := by decide +kernel
theorem dX6_readsDay_73 : decode cX6_readsDay 73 = .ok (.aload_n 0, 1) := by decide +kernel
theorem dX6_readsDay_74 : decode cX6_readsDay 74 = .ok (.dup, 1) := by decide +kernel
theorem dX6_readsDay_75 : decode cX6_readsDay 75 = .ok (.getfield 181, 3) := by decide +kernel
theorem dX6_readsDay_78 : decode cX6_readsDay 78 = .ok (.iconst 1, 1) := by decide +kernel
theorem dX6_readsDay_79 : decode cX6_readsDay 79 = .ok (.iadd, 1) := by decide +kernel
theorem dX6_readsDay_80 : decode cX6_readsDay 80 = .ok (.putfield 181, 3) := by decide +kernel
theorem dX6_readsDay_83 : decode cX6_readsDay 83 = .ok (.iload_n 1, 1) := by decide +kernel
theorem dX6_readsDay_84 : decode cX6_readsDay 84 = .ok (.ifCond .eq 31, 3) := by decide +kernel
theorem dX6_readsDay_87 : decode cX6_readsDay 87 = .ok (.aload_n 0, 1) := by decide +kernel
theorem dX6_readsDay_88 : decode cX6_readsDay 88 = .ok (.aload_n 0, 1) := by decide +kernel
theorem dX6_readsDay_89 : decode cX6_readsDay 89 = .ok (.getfield 41, 3) := by decide +kernel
theorem dX6_readsDay_92 : decode cX6_readsDay 92 = .ok (.iconst 0, 1) := by decide +kernel
theorem dX6_readsDay_93 : decode cX6_readsDay 93 = .ok (.iaload, 1) := by decide +kernel
theorem dX6_readsDay_94 : decode cX6_readsDay 94 = .ok (.aload_n 0, 1) := by decide +kernel
theorem dX6_readsDay_95 : decode cX6_readsDay 95 = .ok (.getfield 41, 3) := by decide +kernel
theorem dX6_readsDay_98 : decode cX6_readsDay 98 = .ok (.iconst 1, 1) := by decide +kernel
theorem dX6_readsDay_99 : decode cX6_readsDay 99 = .ok (.iaload, 1) := by decide +kernel
theorem dX6_readsDay_100 : decode cX6_readsDay 100 = .ok (.aload_n 0, 1) := by decide +kernel
theorem dX6_readsDay_101 : decode cX6_readsDay 101 = .ok (.getfield 41, 3) := by decide +kernel
theorem dX6_readsDay_104 : decode cX6_readsDay 104 = .ok (.iconst 2, 1) := by decide +kernel
theorem dX6_readsDay_105 : decode cX6_readsDay 105 = .ok (.iaload, 1) := by decide +kernel
theorem dX6_readsDay_106 : decode cX6_readsDay 106 = .ok (.aload_n 0, 1) := by decide +kernel
theorem dX6_readsDay_107 : decode cX6_readsDay 107 = .ok (.getfield 41, 3) := by decide +kernel
theorem dX6_readsDay_110 : decode cX6_readsDay 110 = .ok (.iconst 3, 1) := by decide +kernel
theorem dX6_readsDay_111 : decode cX6_readsDay 111 = .ok (.iaload, 1) := by decide +kernel
theorem dX6_readsDay_112 : decode cX6_readsDay 112 = .ok (.invokevirtual 69, 3) := by decide +kernel
theorem dX6_readsDay_115 : decode cX6_readsDay 115 = .ok (.iconst 1, 1) := by decide +kernel
theorem dX6_readsDay_116 : decode cX6_readsDay 116 = .ok (.ireturn, 1) := by decide +kernel
set_option maxRecDepth 20000 in
theorem ggX6_goesThrough_X6_skips : GoodIn wsX6_goesThrough wsX6_skips := goodIn_r _ [10, 1, 5, 11, 12, 13, 9, 14, 4, 15, 33, 34, 35, 36, 37, 38, 39, 40, 41, 42, 43, 44, 45, 46, 47, 48, 49, 50, 51, 52, 53] (by decide +kernel) (by decide +kernel)
set_option maxRecDepth 20000 in
theorem gX6_goesThrough_X6_skips : GoodIn wsX6_goesThrough (wsV RX6 178 RX6 yX6_skips wsX6_skips) := goodIn_app (goodIn_of _ (by decide +kernel)) ggX6_goesThrough_X6_skips
set_option maxRecDepth 20000 in
theorem ggX6_goesThrough_X6_readsDay : GoodIn wsX6_goesThrough wsX6_readsDay := goodIn_r _ [19, 3, 1, 20, 6, 7, 8, 9, 10, 5, 11, 12, 13, 14, 4, 15, 21, 22, 23, 24, 25, 26, 27, 28, 29, 30, 31, 32, 2, 33, 34, 35, 36, 37, 38, 39, 40, 41, 42, 43, 44, 45, 46, 47, 48, 49, 50, 51, 52, 53] (by decide +kernel) (by decide +kernel)
set_option maxRecDepth 20000 in
theorem gX6_goesThrough_X6_readsDay : GoodIn wsX6_goesThrough (wsV RX6 187 RX6 yX6_readsDay wsX6_readsDay) := goodIn_app (goodIn_of _ (by decide +kernel)) ggX6_goesThrough_X6_readsDay
theorem dX6_goesThrough_0 : decode cX6_goesThrough 0 = .ok (.aload_n 0, 1) := by decide +kernel
theorem dX6_goesThrough_1 : decode cX6_goesThrough 1 = .ok (.iconst 0, 1) := by decide +kernel
theorem dX6_goesThrough_2 : decode cX6_goesThrough 2 = .ok (.putfield 169, 3) := by decide +kernel
theorem dX6_goesThrough_5 : decode cX6_goesThrough 5 = .ok (.aload_n 0, 1) := by decide +kernel
theorem dX6_goesThrough_6 : decode cX6_goesThrough 6 = .ok (.aload_n 0, 1) := by decide +kernel
theorem dX6_goesThrough_7 : decode cX6_goesThrough 7 = .ok (.getfield 48, 3) := by decide +kernel
theorem dX6_goesThrough_10 : decode cX6_goesThrough 10 = .ok (.putfield 181, 3) := by decide +kernel
theorem dX6_goesThrough_13 : decode cX6_goesThrough 13 = .ok (.aload_n 0, 1) := by decide +kernel
theorem dX6_goesThrough_14 : decode cX6_goesThrough 14 = .ok (.getfield 48, 3) := by decide +kernel
theorem dX6_goesThrough_17 : decode cX6_goesThrough 17 = .ok (.istore_n 2, 1) := by decide +kernel
theorem dX6_goesThrough_18 : decode cX6_goesThrough 18 = .ok (.aload_n 0, 1) := by decide +kernel
theorem dX6_goesThrough_19 : decode cX6_goesThrough 19 = .ok (.invokevirtual 178, 3) := by decide +kernel
theorem dX6_goesThrough_22 : decode cX6_goesThrough 22 = .ok (.aload_n 0, 1) := by decide +kernel
theorem dX6_goesThrough_23 : decode cX6_goesThrough 23 = .ok (.getfield 169, 3) := by decide +kernel
theorem dX6_goesThrough_26 : decode cX6_goesThrough 26 = .ok (.aload_n 0, 1) := by decide +kernel
theorem dX6_goesThrough_27 : decode cX6_goesThrough 27 = .ok (.getfield 166, 3) := by decide +kernel
theorem dX6_goesThrough_30 : decode cX6_goesThrough 30 = .ok (.if_icmp .ne 11, 3) := by decide +kernel
theorem dX6_goesThrough_33 : decode cX6_goesThrough 33 = .ok (.bipush (-10), 2) := by decide +kernel
theorem dX6_goesThrough_35 : decode cX6_goesThrough 35 = .ok (.aload_n 0, 1) := by decide +kernel
theorem dX6_goesThrough_36 : decode cX6_goesThrough 36 = .ok (.getfield 166, 3) := by decide +kernel
theorem dX6_goesThrough_39 : decode cX6_goesThrough 39 = .ok (.isub, 1) := by decide +kernel
theorem dX6_goesThrough_40 : decode cX6_goesThrough 40 = .ok (.ireturn, 1) := by decide +kernel
theorem dX6_goesThrough_41 : decode cX6_goesThrough 41 = .ok (.aload_n 0, 1) := by decide +kernel
theorem dX6_goesThrough_42 : decode cX6_goesThrough 42 = .ok (.getfield 169, 3) := by decide +kernel
theorem dX6_goesThrough_45 : decode cX6_goesThrough 45 = .ok (.aload_n 0, 1) := by decide +kernel
theorem dX6_goesThrough_46 : decode cX6_goesThrough 46 = .ok (.getfield 166, 3) := by decide +kernel
theorem dX6_goesThrough_49 : decode cX6_goesThrough 49 = .ok (.if_icmp .ge 26, 3) := by decide +kernel
theorem dX6_goesThrough_52 : decode cX6_goesThrough 52 = .ok (.aload_n 0, 1) := by decide +kernel
theorem dX6_goesThrough_53 : decode cX6_goesThrough 53 = .ok (.iload_n 1, 1) := by decide +kernel
theorem dX6_goesThrough_54 : decode cX6_goesThrough 54 = .ok (.invokevirtual 187, 3) := by decide +kernel
theorem dX6_goesThrough_57 : decode cX6_goesThrough 57 = .ok (.ifCond .ne 11, 3) := by decide +kernel
theorem dX6_goesThrough_60 : decode cX6_goesThrough 60 = .ok (.bipush (-10), 2) := by decide +kernel
theorem dX6_goesThrough_62 : decode cX6_goesThrough 62 = .ok (.aload_n 0, 1) := by decide +kernel
theorem dX6_goesThrough_63 : decode cX6_goesThrough 63 = .ok (.getfield 175, 3) := by decide +kernel
theorem dX6_goesThrough_66 : decode cX6_goesThrough 66 = .ok (.isub, 1) := by decide +kernel
theorem dX6_goesThrough_67 : decode cX6_goesThrough 67 = .ok (.ireturn, 1) := by decide +kernel
theorem dX6_goesThrough_68 : decode cX6_goesThrough 68 = .ok (.aload_n 0, 1) := by decide +kernel
theorem dX6_goesThrough_69 : decode cX6_goesThrough 69 = .ok (.invokevirtual 178, 3) := by decide +kernel
theorem dX6_goesThrough_72 : decode cX6_goesThrough 72 = .ok (.goto (-31), 3) := by decide +kernel
theorem dX6_goesThrough_75 : decode cX6_goesThrough 75 = .ok (.aload_n 0, 1) := by decide +kernel
theorem dX6_goesThrough_76 : decode cX6_goesThrough 76 = .ok (.getfield 181, 3) := by decide +kernel
theorem dX6_goesThrough_79 : decode cX6_goesThrough 79 = .ok (.iload_n 2, 1) := by decide +kernel
theorem dX6_goesThrough_80 : decode cX6_goesThrough 80 = .ok (.isub, 1) := by decide +kernel
theorem dX6_goesThrough_81 : decode cX6_goesThrough 81 = .ok (.ireturn, 1) := by decide +kernel
set_option maxRecDepth 20000 in
theorem ggX6_reads_X6_goesThrough : GoodIn wsX6_reads wsX6_goesThrough := goodIn_r _ [5, 6, 7, 8, 9, 10, 11, 12, 13, 4, 14, 15, 16, 17, 18, 19, 20, 21, 22, 23, 24, 25, 26, 27, 28, 29, 30, 31, 32, 33, 34, 35, 36, 44, 45, 46, 47, 48, 49, 50, 51, 52, 53, 54, 55, 56, 57, 58, 59, 60, 61, 62, 63, 64] (by decide +kernel) (by decide +kernel)
set_option maxRecDepth 20000 in
theorem gX6_reads_X6_goesThrough : GoodIn wsX6_reads (wsV RX6 191 RX6 yX6_goesThrough wsX6_goesThrough) := goodIn_app (goodIn_of _ (by decide +kernel)) ggX6_reads_X6_goesThrough
set_option maxRecDepth 20000 in
theorem ggX6_reads_X6_leavesState : GoodIn wsX6_reads wsX6_leavesState := goodIn_r _ [40, 41, 42, 7, 43, 36, 44, 45, 46, 47, 48, 49, 50, 51, 52, 53, 54, 55, 56, 57, 58, 59, 60, 61, 62, 63, 64] (by decide +kernel) (by decide +kernel)
set_option maxRecDepth 20000 in
theorem gX6_reads_X6_leavesState : GoodIn wsX6_reads (wsV RX6 66 RX6 yX6_leavesState wsX6_leavesState) := goodIn_app (goodIn_of _ (by decide +kernel)) ggX6_reads_X6_leavesState
theorem dX6_reads_0 : decode cX6_reads 0 = .ok (.aload_n 0, 1) := by decide +kernel
theorem dX6_reads_1 : decode cX6_reads 1 = .ok (.iconst 0, 1) := by decide +kernel
theorem dX6_reads_2 : decode cX6_reads 2 = .ok (.invokevirtual 191, 3) := by decide +kernel
theorem dX6_reads_5 : decode cX6_reads 5 = .ok (.istore_n 1, 1) := by decide +kernel
theorem dX6_reads_6 : decode cX6_reads 6 = .ok (.iload_n 1, 1) := by decide +kernel
theorem dX6_reads_7 : decode cX6_reads 7 = .ok (.ifCond .ge 5, 3) := by decide +kernel
theorem dX6_reads_10 : decode cX6_reads 10 = .ok (.iload_n 1, 1) := by decide +kernel
theorem dX6_reads_11 : decode cX6_reads 11 = .ok (.ireturn, 1) := by decide +kernel
theorem dX6_reads_12 : decode cX6_reads 12 = .ok (.aload_n 0, 1) := by decide +kernel
theorem dX6_reads_13 : decode cX6_reads 13 = .ok (.invokevirtual 66, 3) := by decide +kernel
theorem dX6_reads_16 : decode cX6_reads 16 = .ok (.aload_n 0, 1) := by decide +kernel
theorem dX6_reads_17 : decode cX6_reads 17 = .ok (.iconst 1, 1) := by decide +kernel
theorem dX6_reads_18 : decode cX6_reads 18 = .ok (.invokevirtual 191, 3) := by decide +kernel
theorem dX6_reads_21 : decode cX6_reads 21 = .ok (.ireturn, 1) := by decide +kernel
theorem dX6_toldBy_0 : decode cX6_toldBy 0 = .ok (.iload_n 1, 1) := by decide +kernel
theorem dX6_toldBy_1 : decode cX6_toldBy 1 = .ok (.iconst 3, 1) := by decide +kernel
theorem dX6_toldBy_2 : decode cX6_toldBy 2 = .ok (.if_icmp .ge 12, 3) := by decide +kernel
theorem dX6_toldBy_5 : decode cX6_toldBy 5 = .ok (.aload_n 0, 1) := by decide +kernel
theorem dX6_toldBy_6 : decode cX6_toldBy 6 = .ok (.getfield 1, 3) := by decide +kernel
theorem dX6_toldBy_9 : decode cX6_toldBy 9 = .ok (.iload_n 1, 1) := by decide +kernel
theorem dX6_toldBy_10 : decode cX6_toldBy 10 = .ok (.iaload, 1) := by decide +kernel
theorem dX6_toldBy_11 : decode cX6_toldBy 11 = .ok (.goto 48, 3) := by decide +kernel
theorem dX6_toldBy_14 : decode cX6_toldBy 14 = .ok (.iload_n 1, 1) := by decide +kernel
theorem dX6_toldBy_15 : decode cX6_toldBy 15 = .ok (.iconst 3, 1) := by decide +kernel
theorem dX6_toldBy_16 : decode cX6_toldBy 16 = .ok (.if_icmp .ne 10, 3) := by decide +kernel
theorem dX6_toldBy_19 : decode cX6_toldBy 19 = .ok (.aload_n 0, 1) := by decide +kernel
theorem dX6_toldBy_20 : decode cX6_toldBy 20 = .ok (.getfield 166, 3) := by decide +kernel
theorem dX6_toldBy_23 : decode cX6_toldBy 23 = .ok (.goto 36, 3) := by decide +kernel
theorem dX6_toldBy_26 : decode cX6_toldBy 26 = .ok (.iload_n 1, 1) := by decide +kernel
theorem dX6_toldBy_27 : decode cX6_toldBy 27 = .ok (.iconst 4, 1) := by decide +kernel
theorem dX6_toldBy_28 : decode cX6_toldBy 28 = .ok (.if_icmp .ne 10, 3) := by decide +kernel
theorem dX6_toldBy_31 : decode cX6_toldBy 31 = .ok (.aload_n 0, 1) := by decide +kernel
theorem dX6_toldBy_32 : decode cX6_toldBy 32 = .ok (.getfield 48, 3) := by decide +kernel
theorem dX6_toldBy_35 : decode cX6_toldBy 35 = .ok (.goto 24, 3) := by decide +kernel
theorem dX6_toldBy_38 : decode cX6_toldBy 38 = .ok (.iload_n 1, 1) := by decide +kernel
theorem dX6_toldBy_39 : decode cX6_toldBy 39 = .ok (.bipush 7, 2) := by decide +kernel
theorem dX6_toldBy_41 : decode cX6_toldBy 41 = .ok (.if_icmp .ne 10, 3) := by decide +kernel
theorem dX6_toldBy_44 : decode cX6_toldBy 44 = .ok (.aload_n 0, 1) := by decide +kernel
theorem dX6_toldBy_45 : decode cX6_toldBy 45 = .ok (.getfield 52, 3) := by decide +kernel
theorem dX6_toldBy_48 : decode cX6_toldBy 48 = .ok (.goto 11, 3) := by decide +kernel
theorem dX6_toldBy_51 : decode cX6_toldBy 51 = .ok (.aload_n 0, 1) := by decide +kernel
theorem dX6_toldBy_52 : decode cX6_toldBy 52 = .ok (.getfield 13, 3) := by decide +kernel
theorem dX6_toldBy_55 : decode cX6_toldBy 55 = .ok (.iload_n 1, 1) := by decide +kernel
theorem dX6_toldBy_56 : decode cX6_toldBy 56 = .ok (.iconst 1, 1) := by decide +kernel
theorem dX6_toldBy_57 : decode cX6_toldBy 57 = .ok (.isub, 1) := by decide +kernel
theorem dX6_toldBy_58 : decode cX6_toldBy 58 = .ok (.iaload, 1) := by decide +kernel
theorem dX6_toldBy_59 : decode cX6_toldBy 59 = .ok (.ireturn, 1) := by decide +kernel
set_option maxRecDepth 20000 in
theorem ggX6_told_X6_in : GoodIn wsX6_told wsX6_in := goodIn_r _ [4] (by decide +kernel) (by decide +kernel)
set_option maxRecDepth 20000 in
theorem gX6_told_X6_in : GoodIn wsX6_told (va_wsS RX6 44 yX6_in wsX6_in) := goodIn_app (goodIn_of _ (by decide +kernel)) ggX6_told_X6_in
set_option maxRecDepth 20000 in
theorem ggX6_told_X6_toldBy : GoodIn wsX6_told wsX6_toldBy := goodIn_r _ [8, 9, 10, 11, 12, 13, 18, 19, 20, 21, 22, 23, 24, 25, 26, 27, 28, 29, 30, 31, 32, 33, 34, 35, 36, 37, 38] (by decide +kernel) (by decide +kernel)
set_option maxRecDepth 20000 in
theorem gX6_told_X6_toldBy : GoodIn wsX6_told (wsV RX6 195 RX6 yX6_toldBy wsX6_toldBy) := goodIn_app (goodIn_of _ (by decide +kernel)) ggX6_told_X6_toldBy
set_option maxRecDepth 20000 in
theorem ggX6_told_X6_bad : GoodIn wsX6_told wsX6_bad := goodIn_r _ [17, 9, 18, 19, 20, 21, 22, 23, 24, 25, 26, 27, 28, 29, 30, 31, 32, 33, 34, 35, 36, 37, 38] (by decide +kernel) (by decide +kernel)
set_option maxRecDepth 20000 in
theorem gX6_told_X6_bad : GoodIn wsX6_told (wsV RX6 59 RX6 yX6_bad wsX6_bad) := goodIn_app (goodIn_of _ (by decide +kernel)) ggX6_told_X6_bad
theorem dX6_told_0 : decode cX6_told 0 = .ok (.iload_n 1, 1) := by decide +kernel
theorem dX6_told_1 : decode cX6_told 1 = .ok (.iconst 0, 1) := by decide +kernel
theorem dX6_told_2 : decode cX6_told 2 = .ok (.bipush 7, 2) := by decide +kernel
theorem dX6_told_4 : decode cX6_told 4 = .ok (.invokestatic 44, 3) := by decide +kernel
theorem dX6_told_7 : decode cX6_told 7 = .ok (.ifCond .eq 11, 3) := by decide +kernel
theorem dX6_told_10 : decode cX6_told 10 = .ok (.aload_n 0, 1) := by decide +kernel
theorem dX6_told_11 : decode cX6_told 11 = .ok (.iload_n 1, 1) := by decide +kernel
theorem dX6_told_12 : decode cX6_told 12 = .ok (.invokevirtual 195, 3) := by decide +kernel
theorem dX6_told_15 : decode cX6_told 15 = .ok (.goto 7, 3) := by decide +kernel
theorem dX6_told_18 : decode cX6_told 18 = .ok (.aload_n 0, 1) := by decide +kernel
theorem dX6_told_19 : decode cX6_told 19 = .ok (.invokevirtual 59, 3) := by decide +kernel
theorem dX6_told_22 : decode cX6_told 22 = .ok (.ireturn, 1) := by decide +kernel
set_option maxRecDepth 20000 in
theorem ggX6_digest_X6_toldBy : GoodIn wsX6_digest wsX6_toldBy := goodIn_r _ [13, 14, 15, 4, 16, 3, 75, 76, 77, 78, 79, 80, 81, 82, 83, 84, 85, 86, 87, 88, 89, 90, 91, 92, 93, 94, 95] (by decide +kernel) (by decide +kernel)
set_option maxRecDepth 20000 in
theorem gX6_digest_X6_toldBy : GoodIn wsX6_digest (wsV RX6 195 RX6 yX6_toldBy wsX6_toldBy) := goodIn_app (goodIn_of _ (by decide +kernel)) ggX6_digest_X6_toldBy
set_option maxRecDepth 20000 in
theorem ggX6_digest_X6_setNearest : GoodIn wsX6_digest wsX6_setNearest := goodIn_r _ [20, 6, 3, 21, 22, 23, 12, 24, 4, 25, 8, 7, 26, 27, 28, 29, 30, 31, 32, 33, 5, 34, 35, 36, 37, 38, 39, 40, 41, 75, 76, 77, 78, 79, 80, 81, 82, 83, 84, 85, 86, 87, 88, 89, 90, 91, 92, 93, 94, 95] (by decide +kernel) (by decide +kernel)
set_option maxRecDepth 20000 in
theorem gX6_digest_X6_setNearest : GoodIn wsX6_digest (wsV RX6 135 RX6 yX6_setNearest wsX6_setNearest) := goodIn_app (goodIn_of _ (by decide +kernel)) ggX6_digest_X6_setNearest
set_option maxRecDepth 20000 in
theorem ggX6_digest_Jxf58ca_floatToIntBits_5c35a : GoodIn wsX6_digest wsJxf58ca_floatToIntBits_5c35a := goodIn_r _ [45, 46, 47, 48, 49, 50, 51, 52, 44, 53] (by decide +kernel) (by decide +kernel)
set_option maxRecDepth 20000 in
theorem gX6_digest_Jxf58ca_floatToIntBits_5c35a : GoodIn wsX6_digest (va_wsS RX6 118 yJxf58ca_floatToIntBits_5c35a wsJxf58ca_floatToIntBits_5c35a) := goodIn_app (goodIn_of _ (by decide +kernel)) ggX6_digest_Jxf58ca_floatToIntBits_5c35a
set_option maxRecDepth 20000 in
theorem ggX6_digest_X6_errsTold : GoodIn wsX6_digest wsX6_errsTold := goodIn_r _ [57, 58, 59, 60, 61, 12, 62, 4, 5, 63, 64, 65, 66, 67, 6, 7, 68, 69, 8, 70, 17, 18, 19, 20, 3, 21, 22, 23, 24, 25, 26, 27, 28, 29, 30, 31, 32, 33, 34, 35, 36, 37, 38, 39, 40, 41, 71, 72, 73, 74, 42, 43, 44, 45, 46, 47, 48, 49, 50, 51, 52, 53, 75, 76, 77, 78, 79, 80, 81, 82, 83, 84, 85, 86, 87, 88, 89, 90, 91, 92, 93, 94, 95] (by decide +kernel) (by decide +kernel)
set_option maxRecDepth 20000 in
theorem gX6_digest_X6_errsTold : GoodIn wsX6_digest (wsV RX6 163 RX6 yX6_errsTold wsX6_errsTold) := goodIn_app (goodIn_of _ (by decide +kernel)) ggX6_digest_X6_errsTold
theorem dX6_digest_0 : decode cX6_digest 0 = .ok (.ldc2_w 198, 3) := by decide +kernel
theorem dX6_digest_3 : decode cX6_digest 3 = .ok (.lstore_n 1, 1) := by decide +kernel
theorem dX6_digest_4 : decode cX6_digest 4 = .ok (.iconst 0, 1) := by decide +kernel
theorem dX6_digest_5 : decode cX6_digest 5 = .ok (.istore_n 3, 1) := by decide +kernel
theorem dX6_digest_6 : decode cX6_digest 6 = .ok (.iload_n 3, 1) := by decide +kernel
theorem dX6_digest_7 : decode cX6_digest 7 = .ok (.bipush 8, 2) := by decide +kernel
theorem dX6_digest_9 : decode cX6_digest 9 = .ok (.if_icmp .ge 22, 3) := by decide +kernel
theorem dX6_digest_12 : decode cX6_digest 12 = .ok (.ldc2_w 200, 3) := by decide +kernel
theorem dX6_digest_15 : decode cX6_digest 15 = .ok (.lload_n 1, 1) := by decide +kernel
theorem dX6_digest_16 : decode cX6_digest 16 = .ok (.lmul, 1) := by decide +kernel
theorem dX6_digest_17 : decode cX6_digest 17 = .ok (.aload_n 0, 1) := by decide +kernel
theorem dX6_digest_18 : decode cX6_digest 18 = .ok (.iload_n 3, 1) := by decide +kernel
theorem dX6_digest_19 : decode cX6_digest 19 = .ok (.invokevirtual 195, 3) := by decide +kernel
theorem dX6_digest_22 : decode cX6_digest 22 = .ok (.i2l, 1) := by decide +kernel
theorem dX6_digest_23 : decode cX6_digest 23 = .ok (.ladd, 1) := by decide +kernel
theorem dX6_digest_24 : decode cX6_digest 24 = .ok (.lstore_n 1, 1) := by decide +kernel
theorem dX6_digest_25 : decode cX6_digest 25 = .ok (.iinc 3 1, 3) := by decide +kernel
theorem dX6_digest_28 : decode cX6_digest 28 = .ok (.goto (-22), 3) := by decide +kernel
theorem dX6_digest_31 : decode cX6_digest 31 = .ok (.iconst 0, 1) := by decide +kernel
theorem dX6_digest_32 : decode cX6_digest 32 = .ok (.istore_n 3, 1) := by decide +kernel
theorem dX6_digest_33 : decode cX6_digest 33 = .ok (.iload_n 3, 1) := by decide +kernel
theorem dX6_digest_34 : decode cX6_digest 34 = .ok (.iconst 4, 1) := by decide +kernel
theorem dX6_digest_35 : decode cX6_digest 35 = .ok (.if_icmp .ge 23, 3) := by decide +kernel
theorem dX6_digest_38 : decode cX6_digest 38 = .ok (.ldc2_w 200, 3) := by decide +kernel
theorem dX6_digest_41 : decode cX6_digest 41 = .ok (.lload_n 1, 1) := by decide +kernel
theorem dX6_digest_42 : decode cX6_digest 42 = .ok (.lmul, 1) := by decide +kernel
theorem dX6_digest_43 : decode cX6_digest 43 = .ok (.aload_n 0, 1) := by decide +kernel
theorem dX6_digest_44 : decode cX6_digest 44 = .ok (.getfield 13, 3) := by decide +kernel
theorem dX6_digest_47 : decode cX6_digest 47 = .ok (.iload_n 3, 1) := by decide +kernel
theorem dX6_digest_48 : decode cX6_digest 48 = .ok (.iaload, 1) := by decide +kernel
theorem dX6_digest_49 : decode cX6_digest 49 = .ok (.i2l, 1) := by decide +kernel
theorem dX6_digest_50 : decode cX6_digest 50 = .ok (.ladd, 1) := by decide +kernel
theorem dX6_digest_51 : decode cX6_digest 51 = .ok (.lstore_n 1, 1) := by decide +kernel
theorem dX6_digest_52 : decode cX6_digest 52 = .ok (.iinc 3 1, 3) := by decide +kernel
theorem dX6_digest_55 : decode cX6_digest 55 = .ok (.goto (-22), 3) := by decide +kernel
theorem dX6_digest_58 : decode cX6_digest 58 = .ok (.iconst 0, 1) := by decide +kernel
theorem dX6_digest_59 : decode cX6_digest 59 = .ok (.istore_n 3, 1) := by decide +kernel
theorem dX6_digest_60 : decode cX6_digest 60 = .ok (.iload_n 3, 1) := by decide +kernel
theorem dX6_digest_61 : decode cX6_digest 61 = .ok (.iconst 4, 1) := by decide +kernel
theorem dX6_digest_62 : decode cX6_digest 62 = .ok (.aload_n 0, 1) := by decide +kernel
theorem dX6_digest_63 : decode cX6_digest 63 = .ok (.getfield 48, 3) := by decide +kernel
theorem dX6_digest_66 : decode cX6_digest 66 = .ok (.imul, 1) := by decide +kernel
theorem dX6_digest_67 : decode cX6_digest 67 = .ok (.if_icmp .ge 23, 3) := by decide +kernel
theorem dX6_digest_70 : decode cX6_digest 70 = .ok (.ldc2_w 200, 3) := by decide +kernel
theorem dX6_digest_73 : decode cX6_digest 73 = .ok (.lload_n 1, 1) := by decide +kernel
theorem dX6_digest_74 : decode cX6_digest 74 = .ok (.lmul, 1) := by decide +kernel
theorem dX6_digest_75 : decode cX6_digest 75 = .ok (.aload_n 0, 1) := by decide +kernel
theorem dX6_digest_76 : decode cX6_digest 76 = .ok (.getfield 16, 3) := by decide +kernel
theorem dX6_digest_79 : decode cX6_digest 79 = .ok (.iload_n 3, 1) := by decide +kernel
theorem dX6_digest_80 : decode cX6_digest 80 = .ok (.iaload, 1) := by decide +kernel
theorem dX6_digest_81 : decode cX6_digest 81 = .ok (.i2l, 1) := by decide +kernel
theorem dX6_digest_82 : decode cX6_digest 82 = .ok (.ladd, 1) := by decide +kernel
theorem dX6_digest_83 : decode cX6_digest 83 = .ok (.lstore_n 1, 1) := by decide +kernel
theorem dX6_digest_84 : decode cX6_digest 84 = .ok (.iinc 3 1, 3) := by decide +kernel
theorem dX6_digest_87 : decode cX6_digest 87 = .ok (.goto (-27), 3) := by decide +kernel
theorem dX6_digest_90 : decode cX6_digest 90 = .ok (.iconst 0, 1) := by decide +kernel
theorem dX6_digest_91 : decode cX6_digest 91 = .ok (.istore_n 3, 1) := by decide +kernel
theorem dX6_digest_92 : decode cX6_digest 92 = .ok (.iload_n 3, 1) := by decide +kernel
theorem dX6_digest_93 : decode cX6_digest 93 = .ok (.aload_n 0, 1) := by decide +kernel
theorem dX6_digest_94 : decode cX6_digest 94 = .ok (.getfield 48, 3) := by decide +kernel
theorem dX6_digest_97 : decode cX6_digest 97 = .ok (.if_icmp .ge 67, 3) := by decide +kernel
theorem dX6_digest_100 : decode cX6_digest 100 = .ok (.aload_n 0, 1) := by decide +kernel
theorem dX6_digest_101 : decode cX6_digest 101 = .ok (.iload_n 3, 1) := by decide +kernel
theorem dX6_digest_102 : decode cX6_digest 102 = .ok (.invokevirtual 135, 3) := by decide +kernel
theorem dX6_digest_105 : decode cX6_digest 105 = .ok (.ldc2_w 200, 3) := by decide +kernel
theorem dX6_digest_108 : decode cX6_digest 108 = .ok (.lload_n 1, 1) := by decide +kernel
theorem dX6_digest_109 : decode cX6_digest 109 = .ok (.lmul, 1) := by decide +kernel
theorem dX6_digest_110 : decode cX6_digest 110 = .ok (.aload_n 0, 1) := by decide +kernel
theorem dX6_digest_111 : decode cX6_digest 111 = .ok (.getfield 124, 3) := by decide +kernel
theorem dX6_digest_114 : decode cX6_digest 114 = .ok (.ifCond .ne 7, 3) := by decide +kernel
theorem dX6_digest_117 : decode cX6_digest 117 = .ok (.iconst (-1), 1) := by decide +kernel
theorem dX6_digest_118 : decode cX6_digest 118 = .ok (.goto 9, 3) := by decide +kernel
theorem dX6_digest_121 : decode cX6_digest 121 = .ok (.aload_n 0, 1) := by decide +kernel
theorem dX6_digest_122 : decode cX6_digest 122 = .ok (.getfield 22, 3) := by decide +kernel
theorem dX6_digest_125 : decode cX6_digest 125 = .ok (.iconst 0, 1) := by decide +kernel
theorem dX6_digest_126 : decode cX6_digest 126 = .ok (.iaload, 1) := by decide +kernel
theorem dX6_digest_127 : decode cX6_digest 127 = .ok (.i2l, 1) := by decide +kernel
theorem dX6_digest_128 : decode cX6_digest 128 = .ok (.ladd, 1) := by decide +kernel
theorem dX6_digest_129 : decode cX6_digest 129 = .ok (.lstore_n 1, 1) := by decide +kernel
theorem dX6_digest_130 : decode cX6_digest 130 = .ok (.ldc2_w 200, 3) := by decide +kernel
theorem dX6_digest_133 : decode cX6_digest 133 = .ok (.lload_n 1, 1) := by decide +kernel
theorem dX6_digest_134 : decode cX6_digest 134 = .ok (.lmul, 1) := by decide +kernel
theorem dX6_digest_135 : decode cX6_digest 135 = .ok (.aload_n 0, 1) := by decide +kernel
theorem dX6_digest_136 : decode cX6_digest 136 = .ok (.getfield 124, 3) := by decide +kernel
theorem dX6_digest_139 : decode cX6_digest 139 = .ok (.ifCond .ne 7, 3) := by decide +kernel
theorem dX6_digest_142 : decode cX6_digest 142 = .ok (.iconst (-1), 1) := by decide +kernel
theorem dX6_digest_143 : decode cX6_digest 143 = .ok (.goto 12, 3) := by decide +kernel
theorem dX6_digest_146 : decode cX6_digest 146 = .ok (.aload_n 0, 1) := by decide +kernel
theorem dX6_digest_147 : decode cX6_digest 147 = .ok (.getfield 25, 3) := by decide +kernel
theorem dX6_digest_150 : decode cX6_digest 150 = .ok (.iconst 0, 1) := by decide +kernel
theorem dX6_digest_151 : decode cX6_digest 151 = .ok (.faload, 1) := by decide +kernel
theorem dX6_digest_152 : decode cX6_digest 152 = .ok (.invokestatic 118, 3) := by decide +kernel
theorem dX6_digest_155 : decode cX6_digest 155 = .ok (.i2l, 1) := by decide +kernel
theorem dX6_digest_156 : decode cX6_digest 156 = .ok (.ladd, 1) := by decide +kernel
theorem dX6_digest_157 : decode cX6_digest 157 = .ok (.lstore_n 1, 1) := by decide +kernel
theorem dX6_digest_158 : decode cX6_digest 158 = .ok (.iinc 3 1, 3) := by decide +kernel
theorem dX6_digest_161 : decode cX6_digest 161 = .ok (.goto (-69), 3) := by decide +kernel
theorem dX6_digest_164 : decode cX6_digest 164 = .ok (.ldc2_w 200, 3) := by decide +kernel
theorem dX6_digest_167 : decode cX6_digest 167 = .ok (.lload_n 1, 1) := by decide +kernel
theorem dX6_digest_168 : decode cX6_digest 168 = .ok (.lmul, 1) := by decide +kernel
theorem dX6_digest_169 : decode cX6_digest 169 = .ok (.aload_n 0, 1) := by decide +kernel
theorem dX6_digest_170 : decode cX6_digest 170 = .ok (.iconst 0, 1) := by decide +kernel
theorem dX6_digest_171 : decode cX6_digest 171 = .ok (.invokevirtual 163, 3) := by decide +kernel
theorem dX6_digest_174 : decode cX6_digest 174 = .ok (.i2l, 1) := by decide +kernel
theorem dX6_digest_175 : decode cX6_digest 175 = .ok (.ladd, 1) := by decide +kernel
theorem dX6_digest_176 : decode cX6_digest 176 = .ok (.lreturn, 1) := by decide +kernel
theorem dJxe99ae_isNaN_b9ae7_0 : decode cJxe99ae_isNaN_b9ae7 0 = .ok (.dload_n 0, 1) := by decide +kernel
theorem dJxe99ae_isNaN_b9ae7_1 : decode cJxe99ae_isNaN_b9ae7 1 = .ok (.dload_n 0, 1) := by decide +kernel
theorem dJxe99ae_isNaN_b9ae7_2 : decode cJxe99ae_isNaN_b9ae7 2 = .ok (.dcmp .l, 1) := by decide +kernel
theorem dJxe99ae_isNaN_b9ae7_3 : decode cJxe99ae_isNaN_b9ae7 3 = .ok (.ifCond .eq 7, 3) := by decide +kernel
theorem dJxe99ae_isNaN_b9ae7_6 : decode cJxe99ae_isNaN_b9ae7 6 = .ok (.iconst 1, 1) := by decide +kernel
theorem dJxe99ae_isNaN_b9ae7_7 : decode cJxe99ae_isNaN_b9ae7 7 = .ok (.goto 4, 3) := by decide +kernel
theorem dJxe99ae_isNaN_b9ae7_10 : decode cJxe99ae_isNaN_b9ae7 10 = .ok (.iconst 0, 1) := by decide +kernel
theorem dJxe99ae_isNaN_b9ae7_11 : decode cJxe99ae_isNaN_b9ae7 11 = .ok (.ireturn, 1) := by decide +kernel
set_option maxRecDepth 20000 in
theorem ggJxe99ae_doubleToLongBits_ccdee_Jxe99ae_isNaN_b9ae7 : GoodIn wsJxe99ae_doubleToLongBits_ccdee wsJxe99ae_isNaN_b9ae7 := goodIn_r _ [9] (by decide +kernel) (by decide +kernel)
set_option maxRecDepth 20000 in
theorem gJxe99ae_doubleToLongBits_ccdee_Jxe99ae_isNaN_b9ae7 : GoodIn wsJxe99ae_doubleToLongBits_ccdee (va_wsS RJxe99ae 122 yJxe99ae_isNaN_b9ae7 wsJxe99ae_isNaN_b9ae7) := goodIn_app (goodIn_of _ (by decide +kernel)) ggJxe99ae_doubleToLongBits_ccdee_Jxe99ae_isNaN_b9ae7
theorem dJxe99ae_doubleToLongBits_ccdee_0 : decode cJxe99ae_doubleToLongBits_ccdee 0 = .ok (.dload_n 0, 1) := by decide +kernel
theorem dJxe99ae_doubleToLongBits_ccdee_1 : decode cJxe99ae_doubleToLongBits_ccdee 1 = .ok (.invokestatic 122, 3) := by decide +kernel
theorem dJxe99ae_doubleToLongBits_ccdee_4 : decode cJxe99ae_doubleToLongBits_ccdee 4 = .ok (.ifCond .ne 8, 3) := by decide +kernel
theorem dJxe99ae_doubleToLongBits_ccdee_7 : decode cJxe99ae_doubleToLongBits_ccdee 7 = .ok (.dload_n 0, 1) := by decide +kernel
theorem dJxe99ae_doubleToLongBits_ccdee_8 : decode cJxe99ae_doubleToLongBits_ccdee 8 = .ok (.invokestatic 134, 3) := by decide +kernel
theorem dJxe99ae_doubleToLongBits_ccdee_11 : decode cJxe99ae_doubleToLongBits_ccdee 11 = .ok (.lreturn, 1) := by decide +kernel
theorem dJxe99ae_doubleToLongBits_ccdee_12 : decode cJxe99ae_doubleToLongBits_ccdee 12 = .ok (.ldc2_w 137, 3) := by decide +kernel
theorem dJxe99ae_doubleToLongBits_ccdee_15 : decode cJxe99ae_doubleToLongBits_ccdee 15 = .ok (.lreturn, 1) := by decide +kernel
theorem dJxf58ca_isNaN_12338_0 : decode cJxf58ca_isNaN_12338 0 = .ok (.fload_n 0, 1) := by decide +kernel
theorem dJxf58ca_isNaN_12338_1 : decode cJxf58ca_isNaN_12338 1 = .ok (.fload_n 0, 1) := by decide +kernel
theorem dJxf58ca_isNaN_12338_2 : decode cJxf58ca_isNaN_12338 2 = .ok (.fcmp .l, 1) := by decide +kernel
theorem dJxf58ca_isNaN_12338_3 : decode cJxf58ca_isNaN_12338 3 = .ok (.ifCond .eq 7, 3) := by decide +kernel
theorem dJxf58ca_isNaN_12338_6 : decode cJxf58ca_isNaN_12338 6 = .ok (.iconst 1, 1) := by decide +kernel
theorem dJxf58ca_isNaN_12338_7 : decode cJxf58ca_isNaN_12338 7 = .ok (.goto 4, 3) := by decide +kernel
theorem dJxf58ca_isNaN_12338_10 : decode cJxf58ca_isNaN_12338 10 = .ok (.iconst 0, 1) := by decide +kernel
theorem dJxf58ca_isNaN_12338_11 : decode cJxf58ca_isNaN_12338 11 = .ok (.ireturn, 1) := by decide +kernel
set_option maxRecDepth 20000 in
theorem ggJxf58ca_floatToIntBits_5c35a_Jxf58ca_isNaN_12338 : GoodIn wsJxf58ca_floatToIntBits_5c35a wsJxf58ca_isNaN_12338 := goodIn_r _ [9] (by decide +kernel) (by decide +kernel)
set_option maxRecDepth 20000 in
theorem gJxf58ca_floatToIntBits_5c35a_Jxf58ca_isNaN_12338 : GoodIn wsJxf58ca_floatToIntBits_5c35a (va_wsS RJxf58ca 59 yJxf58ca_isNaN_12338 wsJxf58ca_isNaN_12338) := goodIn_app (goodIn_of _ (by decide +kernel)) ggJxf58ca_floatToIntBits_5c35a_Jxf58ca_isNaN_12338
theorem dJxf58ca_floatToIntBits_5c35a_0 : decode cJxf58ca_floatToIntBits_5c35a 0 = .ok (.fload_n 0, 1) := by decide +kernel
theorem dJxf58ca_floatToIntBits_5c35a_1 : decode cJxf58ca_floatToIntBits_5c35a 1 = .ok (.invokestatic 59, 3) := by decide +kernel
theorem dJxf58ca_floatToIntBits_5c35a_4 : decode cJxf58ca_floatToIntBits_5c35a 4 = .ok (.ifCond .ne 8, 3) := by decide +kernel
theorem dJxf58ca_floatToIntBits_5c35a_7 : decode cJxf58ca_floatToIntBits_5c35a 7 = .ok (.fload_n 0, 1) := by decide +kernel
theorem dJxf58ca_floatToIntBits_5c35a_8 : decode cJxf58ca_floatToIntBits_5c35a 8 = .ok (.invokestatic 74, 3) := by decide +kernel
theorem dJxf58ca_floatToIntBits_5c35a_11 : decode cJxf58ca_floatToIntBits_5c35a 11 = .ok (.ireturn, 1) := by decide +kernel
theorem dJxf58ca_floatToIntBits_5c35a_12 : decode cJxf58ca_floatToIntBits_5c35a 12 = .ok (.ldc 77, 2) := by decide +kernel
theorem dJxf58ca_floatToIntBits_5c35a_14 : decode cJxf58ca_floatToIntBits_5c35a 14 = .ok (.ireturn, 1) := by decide +kernel
theorem dJ9_abs_0f7a4_0 : decode cJ9_abs_0f7a4 0 = .ok (.iload_n 0, 1) := by decide +kernel
theorem dJ9_abs_0f7a4_1 : decode cJ9_abs_0f7a4 1 = .ok (.ifCond .ge 8, 3) := by decide +kernel
theorem dJ9_abs_0f7a4_4 : decode cJ9_abs_0f7a4 4 = .ok (.iload_n 0, 1) := by decide +kernel
theorem dJ9_abs_0f7a4_5 : decode cJ9_abs_0f7a4 5 = .ok (.ineg, 1) := by decide +kernel
theorem dJ9_abs_0f7a4_6 : decode cJ9_abs_0f7a4 6 = .ok (.goto 4, 3) := by decide +kernel
theorem dJ9_abs_0f7a4_9 : decode cJ9_abs_0f7a4 9 = .ok (.iload_n 0, 1) := by decide +kernel
theorem dJ9_abs_0f7a4_10 : decode cJ9_abs_0f7a4 10 = .ok (.ireturn, 1) := by decide +kernel
theorem dJ9_max_7cf53_0 : decode cJ9_max_7cf53 0 = .ok (.iload_n 0, 1) := by decide +kernel
theorem dJ9_max_7cf53_1 : decode cJ9_max_7cf53 1 = .ok (.iload_n 1, 1) := by decide +kernel
theorem dJ9_max_7cf53_2 : decode cJ9_max_7cf53 2 = .ok (.if_icmp .lt 7, 3) := by decide +kernel
theorem dJ9_max_7cf53_5 : decode cJ9_max_7cf53 5 = .ok (.iload_n 0, 1) := by decide +kernel
theorem dJ9_max_7cf53_6 : decode cJ9_max_7cf53 6 = .ok (.goto 4, 3) := by decide +kernel
theorem dJ9_max_7cf53_9 : decode cJ9_max_7cf53 9 = .ok (.iload_n 1, 1) := by decide +kernel
theorem dJ9_max_7cf53_10 : decode cJ9_max_7cf53 10 = .ok (.ireturn, 1) := by decide +kernel
theorem dJ9_min_7cf53_0 : decode cJ9_min_7cf53 0 = .ok (.iload_n 0, 1) := by decide +kernel
theorem dJ9_min_7cf53_1 : decode cJ9_min_7cf53 1 = .ok (.iload_n 1, 1) := by decide +kernel
theorem dJ9_min_7cf53_2 : decode cJ9_min_7cf53 2 = .ok (.if_icmp .gt 7, 3) := by decide +kernel
theorem dJ9_min_7cf53_5 : decode cJ9_min_7cf53 5 = .ok (.iload_n 0, 1) := by decide +kernel
theorem dJ9_min_7cf53_6 : decode cJ9_min_7cf53 6 = .ok (.goto 4, 3) := by decide +kernel
theorem dJ9_min_7cf53_9 : decode cJ9_min_7cf53 9 = .ok (.iload_n 1, 1) := by decide +kernel
theorem dJ9_min_7cf53_10 : decode cJ9_min_7cf53 10 = .ok (.ireturn, 1) := by decide +kernel
theorem dJ7_fill_53178_0 : decode cJ7_fill_53178 0 = .ok (.iconst 0, 1) := by decide +kernel
theorem dJ7_fill_53178_1 : decode cJ7_fill_53178 1 = .ok (.istore_n 2, 1) := by decide +kernel
theorem dJ7_fill_53178_2 : decode cJ7_fill_53178 2 = .ok (.aload_n 0, 1) := by decide +kernel
theorem dJ7_fill_53178_3 : decode cJ7_fill_53178 3 = .ok (.arraylength, 1) := by decide +kernel
theorem dJ7_fill_53178_4 : decode cJ7_fill_53178 4 = .ok (.istore_n 3, 1) := by decide +kernel
theorem dJ7_fill_53178_5 : decode cJ7_fill_53178 5 = .ok (.iload_n 2, 1) := by decide +kernel
theorem dJ7_fill_53178_6 : decode cJ7_fill_53178 6 = .ok (.iload_n 3, 1) := by decide +kernel
theorem dJ7_fill_53178_7 : decode cJ7_fill_53178 7 = .ok (.if_icmp .ge 13, 3) := by decide +kernel
theorem dJ7_fill_53178_10 : decode cJ7_fill_53178 10 = .ok (.aload_n 0, 1) := by decide +kernel
theorem dJ7_fill_53178_11 : decode cJ7_fill_53178 11 = .ok (.iload_n 2, 1) := by decide +kernel
theorem dJ7_fill_53178_12 : decode cJ7_fill_53178 12 = .ok (.iload_n 1, 1) := by decide +kernel
theorem dJ7_fill_53178_13 : decode cJ7_fill_53178 13 = .ok (.iastore, 1) := by decide +kernel
theorem dJ7_fill_53178_14 : decode cJ7_fill_53178 14 = .ok (.iinc 2 1, 3) := by decide +kernel
theorem dJ7_fill_53178_17 : decode cJ7_fill_53178 17 = .ok (.goto (-12), 3) := by decide +kernel
theorem dJ7_fill_53178_20 : decode cJ7_fill_53178 20 = .ok (.return_, 1) := by decide +kernel
abbrev vwCl : List vw_C := [(RX0, TX0, 5), (RX1, TX1, 4), (RX2, TX2, 9), (RX3, TX3, 3), (RX4, TX4, 5), (RX5, TX5, 8), (RX6, TX6, 21)]
