theorem dX4_parseDay_24 : decode cX4_parseDay 24 = .ok (.iload_n 2, 1) := by decide +kernel
theorem dX4_parseDay_25 : decode cX4_parseDay 25 = .ok (.iconst (-1), 1) := by decide +kernel
theorem dX4_parseDay_26 : decode cX4_parseDay 26 = .ok (.if_icmp .ne 20, 3) := by decide +kernel
theorem dX4_parseDay_29 : decode cX4_parseDay 29 = .ok (.aload_n 0, 1) := by decide +kernel
theorem dX4_parseDay_30 : decode cX4_parseDay 30 = .ok (.iload_n 3, 1) := by decide +kernel
theorem dX4_parseDay_31 : decode cX4_parseDay 31 = .ok (.iconst 3, 1) := by decide +kernel
theorem dX4_parseDay_32 : decode cX4_parseDay 32 = .ok (.if_icmp .ge 8, 3) := by decide +kernel
theorem dX4_parseDay_35 : decode cX4_parseDay 35 = .ok (.bipush 44, 2) := by decide +kernel
theorem dX4_parseDay_37 : decode cX4_parseDay 37 = .ok (.goto 5, 3) := by decide +kernel
theorem dX4_parseDay_40 : decode cX4_parseDay 40 = .ok (.bipush 59, 2) := by decide +kernel
theorem dX4_parseDay_42 : decode cX4_parseDay 42 = .ok (.invokevirtual 42, 3) := by decide +kernel
theorem dX4_parseDay_45 : decode cX4_parseDay 45 = .ok (.istore_n 2, 1) := by decide +kernel
theorem dX4_parseDay_46 : decode cX4_parseDay 46 = .ok (.iinc 3 1, 3) := by decide +kernel
theorem dX4_parseDay_49 : decode cX4_parseDay 49 = .ok (.goto (-45), 3) := by decide +kernel
theorem dX4_parseDay_52 : decode cX4_parseDay 52 = .ok (.iload_n 2, 1) := by decide +kernel
theorem dX4_parseDay_53 : decode cX4_parseDay 53 = .ok (.ireturn, 1) := by decide +kernel
set_option maxRecDepth 20000 in
theorem ggX4_parseMember_X4_skipBlanks : GoodIn wsX4_parseMember wsX4_skipBlanks := goodIn_r _ [7, 1, 2, 8, 9, 10, 6, 11, 12, 25, 26, 27, 28, 29] (by decide +kernel) (by decide +kernel)
set_option maxRecDepth 20000 in
theorem gX4_parseMember_X4_skipBlanks : GoodIn wsX4_parseMember (wsV RX4 32 RX4 yX4_skipBlanks wsX4_skipBlanks) := goodIn_app (goodIn_of _ (by decide +kernel)) ggX4_parseMember_X4_skipBlanks
set_option maxRecDepth 20000 in
theorem ggX4_parseMember_X4_here : GoodIn wsX4_parseMember wsX4_here := goodIn_r _ [11, 1, 2, 12, 25, 26, 27, 28, 29] (by decide +kernel) (by decide +kernel)
set_option maxRecDepth 20000 in
theorem gX4_parseMember_X4_here : GoodIn wsX4_parseMember (wsV RX4 45 RX4 yX4_here wsX4_here) := goodIn_app (goodIn_of _ (by decide +kernel)) ggX4_parseMember_X4_here
set_option maxRecDepth 20000 in
theorem ggX4_parseMember_X4_keepNote : GoodIn wsX4_parseMember wsX4_keepNote := goodIn_r _ [16, 17, 25, 26, 27, 28, 29] (by decide +kernel) (by decide +kernel)
set_option maxRecDepth 20000 in
theorem gX4_parseMember_X4_keepNote : GoodIn wsX4_parseMember (wsV RX4 49 RX4 yX4_keepNote wsX4_keepNote) := goodIn_app (goodIn_of _ (by decide +kernel)) ggX4_parseMember_X4_keepNote
set_option maxRecDepth 20000 in
theorem ggX4_parseMember_X4_parseNumber : GoodIn wsX4_parseMember wsX4_parseNumber := goodIn_r _ [21, 1, 2, 8, 9, 10, 6, 11, 12, 22, 23, 24, 13, 14, 15, 16, 17, 25, 26, 27, 28, 29] (by decide +kernel) (by decide +kernel)
set_option maxRecDepth 20000 in
theorem gX4_parseMember_X4_parseNumber : GoodIn wsX4_parseMember (wsV RX4 53 RX4 yX4_parseNumber wsX4_parseNumber) := goodIn_app (goodIn_of _ (by decide +kernel)) ggX4_parseMember_X4_parseNumber
theorem dX4_parseMember_0 : decode cX4_parseMember 0 = .ok (.aload_n 0, 1) := by decide +kernel
theorem dX4_parseMember_1 : decode cX4_parseMember 1 = .ok (.invokevirtual 32, 3) := by decide +kernel
theorem dX4_parseMember_4 : decode cX4_parseMember 4 = .ok (.aload_n 0, 1) := by decide +kernel
theorem dX4_parseMember_5 : decode cX4_parseMember 5 = .ok (.invokevirtual 45, 3) := by decide +kernel
theorem dX4_parseMember_8 : decode cX4_parseMember 8 = .ok (.bipush 46, 2) := by decide +kernel
theorem dX4_parseMember_10 : decode cX4_parseMember 10 = .ok (.if_icmp .ne 22, 3) := by decide +kernel
theorem dX4_parseMember_13 : decode cX4_parseMember 13 = .ok (.aload_n 0, 1) := by decide +kernel
theorem dX4_parseMember_14 : decode cX4_parseMember 14 = .ok (.dup, 1) := by decide +kernel
theorem dX4_parseMember_15 : decode cX4_parseMember 15 = .ok (.getfield 29, 3) := by decide +kernel
theorem dX4_parseMember_18 : decode cX4_parseMember 18 = .ok (.iconst 1, 1) := by decide +kernel
theorem dX4_parseMember_19 : decode cX4_parseMember 19 = .ok (.iadd, 1) := by decide +kernel
theorem dX4_parseMember_20 : decode cX4_parseMember 20 = .ok (.putfield 29, 3) := by decide +kernel
theorem dX4_parseMember_23 : decode cX4_parseMember 23 = .ok (.aload_n 0, 1) := by decide +kernel
theorem dX4_parseMember_24 : decode cX4_parseMember 24 = .ok (.iload_n 1, 1) := by decide +kernel
theorem dX4_parseMember_25 : decode cX4_parseMember 25 = .ok (.sipush (-10000), 3) := by decide +kernel
theorem dX4_parseMember_28 : decode cX4_parseMember 28 = .ok (.invokevirtual 49, 3) := by decide +kernel
theorem dX4_parseMember_31 : decode cX4_parseMember 31 = .ok (.ireturn, 1) := by decide +kernel
theorem dX4_parseMember_32 : decode cX4_parseMember 32 = .ok (.aload_n 0, 1) := by decide +kernel
theorem dX4_parseMember_33 : decode cX4_parseMember 33 = .ok (.getfield 29, 3) := by decide +kernel
theorem dX4_parseMember_36 : decode cX4_parseMember 36 = .ok (.aload_n 0, 1) := by decide +kernel
theorem dX4_parseMember_37 : decode cX4_parseMember 37 = .ok (.getfield 18, 3) := by decide +kernel
theorem dX4_parseMember_40 : decode cX4_parseMember 40 = .ok (.if_icmp .ge 11, 3) := by decide +kernel
theorem dX4_parseMember_43 : decode cX4_parseMember 43 = .ok (.aload_n 0, 1) := by decide +kernel
theorem dX4_parseMember_44 : decode cX4_parseMember 44 = .ok (.iload_n 1, 1) := by decide +kernel
theorem dX4_parseMember_45 : decode cX4_parseMember 45 = .ok (.invokevirtual 53, 3) := by decide +kernel
theorem dX4_parseMember_48 : decode cX4_parseMember 48 = .ok (.goto 7, 3) := by decide +kernel
theorem dX4_parseMember_51 : decode cX4_parseMember 51 = .ok (.aload_n 0, 1) := by decide +kernel
theorem dX4_parseMember_52 : decode cX4_parseMember 52 = .ok (.getfield 18, 3) := by decide +kernel
theorem dX4_parseMember_55 : decode cX4_parseMember 55 = .ok (.ireturn, 1) := by decide +kernel
set_option maxRecDepth 20000 in
theorem ggX4_parseMark_X4_skipBlanks : GoodIn wsX4_parseMark wsX4_skipBlanks := goodIn_r _ [6, 1, 7, 8, 9, 10, 5, 11, 12, 13, 14, 15, 16, 17] (by decide +kernel) (by decide +kernel)
set_option maxRecDepth 20000 in
theorem gX4_parseMark_X4_skipBlanks : GoodIn wsX4_parseMark (wsV RX4 32 RX4 yX4_skipBlanks wsX4_skipBlanks) := goodIn_app (goodIn_of _ (by decide +kernel)) ggX4_parseMark_X4_skipBlanks
set_option maxRecDepth 20000 in
theorem ggX4_parseMark_X4_here : GoodIn wsX4_parseMark wsX4_here := goodIn_r _ [11, 1, 7, 12, 13, 14, 15, 16, 17] (by decide +kernel) (by decide +kernel)
set_option maxRecDepth 20000 in
theorem gX4_parseMark_X4_here : GoodIn wsX4_parseMark (wsV RX4 45 RX4 yX4_here wsX4_here) := goodIn_app (goodIn_of _ (by decide +kernel)) ggX4_parseMark_X4_here
theorem dX4_parseMark_0 : decode cX4_parseMark 0 = .ok (.aload_n 0, 1) := by decide +kernel
theorem dX4_parseMark_1 : decode cX4_parseMark 1 = .ok (.invokevirtual 32, 3) := by decide +kernel
theorem dX4_parseMark_4 : decode cX4_parseMark 4 = .ok (.aload_n 0, 1) := by decide +kernel
theorem dX4_parseMark_5 : decode cX4_parseMark 5 = .ok (.invokevirtual 45, 3) := by decide +kernel
theorem dX4_parseMark_8 : decode cX4_parseMark 8 = .ok (.iload_n 1, 1) := by decide +kernel
theorem dX4_parseMark_9 : decode cX4_parseMark 9 = .ok (.if_icmp .eq 8, 3) := by decide +kernel
theorem dX4_parseMark_12 : decode cX4_parseMark 12 = .ok (.aload_n 0, 1) := by decide +kernel
theorem dX4_parseMark_13 : decode cX4_parseMark 13 = .ok (.getfield 29, 3) := by decide +kernel
theorem dX4_parseMark_16 : decode cX4_parseMark 16 = .ok (.ireturn, 1) := by decide +kernel
theorem dX4_parseMark_17 : decode cX4_parseMark 17 = .ok (.aload_n 0, 1) := by decide +kernel
theorem dX4_parseMark_18 : decode cX4_parseMark 18 = .ok (.dup, 1) := by decide +kernel
theorem dX4_parseMark_19 : decode cX4_parseMark 19 = .ok (.getfield 29, 3) := by decide +kernel
theorem dX4_parseMark_22 : decode cX4_parseMark 22 = .ok (.iconst 1, 1) := by decide +kernel
theorem dX4_parseMark_23 : decode cX4_parseMark 23 = .ok (.iadd, 1) := by decide +kernel
theorem dX4_parseMark_24 : decode cX4_parseMark 24 = .ok (.putfield 29, 3) := by decide +kernel
theorem dX4_parseMark_27 : decode cX4_parseMark 27 = .ok (.iconst (-1), 1) := by decide +kernel
theorem dX4_parseMark_28 : decode cX4_parseMark 28 = .ok (.ireturn, 1) := by decide +kernel
set_option maxRecDepth 20000 in
theorem ggX4_parseNumber_X4_here : GoodIn wsX4_parseNumber wsX4_here := goodIn_r _ [7, 1, 2, 8, 17, 18, 19, 20, 21] (by decide +kernel) (by decide +kernel)
set_option maxRecDepth 20000 in
theorem gX4_parseNumber_X4_here : GoodIn wsX4_parseNumber (wsV RX4 45 RX4 yX4_here wsX4_here) := goodIn_app (goodIn_of _ (by decide +kernel)) ggX4_parseNumber_X4_here
set_option maxRecDepth 20000 in
theorem ggX4_parseNumber_X5_isWithin : GoodIn wsX4_parseNumber wsX5_isWithin := goodIn_r _ [11] (by decide +kernel) (by decide +kernel)
set_option maxRecDepth 20000 in
theorem gX4_parseNumber_X5_isWithin_n56 : GoodIn wsX4_parseNumber (wsX5_isWithin) := ggX4_parseNumber_X5_isWithin
set_option maxRecDepth 20000 in
theorem ggX4_parseNumber_X4_keepNote : GoodIn wsX4_parseNumber wsX4_keepNote := goodIn_r _ [15, 16, 17, 18, 19, 20, 21] (by decide +kernel) (by decide +kernel)
set_option maxRecDepth 20000 in
theorem gX4_parseNumber_X4_keepNote : GoodIn wsX4_parseNumber (wsV RX4 49 RX4 yX4_keepNote wsX4_keepNote) := goodIn_app (goodIn_of _ (by decide +kernel)) ggX4_parseNumber_X4_keepNote
theorem dX4_parseNumber_0 : decode cX4_parseNumber 0 = .ok (.aload_n 0, 1) := by decide +kernel
theorem dX4_parseNumber_1 : decode cX4_parseNumber 1 = .ok (.getfield 29, 3) := by decide +kernel
theorem dX4_parseNumber_4 : decode cX4_parseNumber 4 = .ok (.istore_n 2, 1) := by decide +kernel
theorem dX4_parseNumber_5 : decode cX4_parseNumber 5 = .ok (.aload_n 0, 1) := by decide +kernel
theorem dX4_parseNumber_6 : decode cX4_parseNumber 6 = .ok (.invokevirtual 45, 3) := by decide +kernel
theorem dX4_parseNumber_9 : decode cX4_parseNumber 9 = .ok (.bipush 45, 2) := by decide +kernel
theorem dX4_parseNumber_11 : decode cX4_parseNumber 11 = .ok (.if_icmp .ne 7, 3) := by decide +kernel
theorem dX4_parseNumber_14 : decode cX4_parseNumber 14 = .ok (.iconst 1, 1) := by decide +kernel
theorem dX4_parseNumber_15 : decode cX4_parseNumber 15 = .ok (.goto 4, 3) := by decide +kernel
theorem dX4_parseNumber_18 : decode cX4_parseNumber 18 = .ok (.iconst 0, 1) := by decide +kernel
theorem dX4_parseNumber_19 : decode cX4_parseNumber 19 = .ok (.istore_n 3, 1) := by decide +kernel
theorem dX4_parseNumber_20 : decode cX4_parseNumber 20 = .ok (.iload_n 3, 1) := by decide +kernel
theorem dX4_parseNumber_21 : decode cX4_parseNumber 21 = .ok (.ifCond .eq 13, 3) := by decide +kernel
theorem dX4_parseNumber_24 : decode cX4_parseNumber 24 = .ok (.aload_n 0, 1) := by decide +kernel
theorem dX4_parseNumber_25 : decode cX4_parseNumber 25 = .ok (.dup, 1) := by decide +kernel
theorem dX4_parseNumber_26 : decode cX4_parseNumber 26 = .ok (.getfield 29, 3) := by decide +kernel
theorem dX4_parseNumber_29 : decode cX4_parseNumber 29 = .ok (.iconst 1, 1) := by decide +kernel
theorem dX4_parseNumber_30 : decode cX4_parseNumber 30 = .ok (.iadd, 1) := by decide +kernel
theorem dX4_parseNumber_31 : decode cX4_parseNumber 31 = .ok (.putfield 29, 3) := by decide +kernel
theorem dX4_parseNumber_34 : decode cX4_parseNumber 34 = .ok (.iconst 0, 1) := by decide +kernel
theorem dX4_parseNumber_35 : decode cX4_parseNumber 35 = .ok (.istore 4, 2) := by decide +kernel
theorem dX4_parseNumber_37 : decode cX4_parseNumber 37 = .ok (.iconst 0, 1) := by decide +kernel
theorem dX4_parseNumber_38 : decode cX4_parseNumber 38 = .ok (.istore 5, 2) := by decide +kernel
theorem dX4_parseNumber_40 : decode cX4_parseNumber 40 = .ok (.aload_n 0, 1) := by decide +kernel
theorem dX4_parseNumber_41 : decode cX4_parseNumber 41 = .ok (.getfield 29, 3) := by decide +kernel
theorem dX4_parseNumber_44 : decode cX4_parseNumber 44 = .ok (.aload_n 0, 1) := by decide +kernel
theorem dX4_parseNumber_45 : decode cX4_parseNumber 45 = .ok (.getfield 18, 3) := by decide +kernel
theorem dX4_parseNumber_48 : decode cX4_parseNumber 48 = .ok (.if_icmp .ge 48, 3) := by decide +kernel
theorem dX4_parseNumber_51 : decode cX4_parseNumber 51 = .ok (.aload_n 0, 1) := by decide +kernel
theorem dX4_parseNumber_52 : decode cX4_parseNumber 52 = .ok (.invokevirtual 45, 3) := by decide +kernel
theorem dX4_parseNumber_55 : decode cX4_parseNumber 55 = .ok (.bipush 48, 2) := by decide +kernel
theorem dX4_parseNumber_57 : decode cX4_parseNumber 57 = .ok (.bipush 57, 2) := by decide +kernel
theorem dX4_parseNumber_59 : decode cX4_parseNumber 59 = .ok (.invokestatic 56, 3) := by decide +kernel
theorem dX4_parseNumber_62 : decode cX4_parseNumber 62 = .ok (.ifCond .eq 34, 3) := by decide +kernel
theorem dX4_parseNumber_65 : decode cX4_parseNumber 65 = .ok (.iload 5, 2) := by decide +kernel
theorem dX4_parseNumber_67 : decode cX4_parseNumber 67 = .ok (.bipush 10, 2) := by decide +kernel
theorem dX4_parseNumber_69 : decode cX4_parseNumber 69 = .ok (.imul, 1) := by decide +kernel
theorem dX4_parseNumber_70 : decode cX4_parseNumber 70 = .ok (.aload_n 0, 1) := by decide +kernel
theorem dX4_parseNumber_71 : decode cX4_parseNumber 71 = .ok (.invokevirtual 45, 3) := by decide +kernel
theorem dX4_parseNumber_74 : decode cX4_parseNumber 74 = .ok (.iadd, 1) := by decide +kernel
theorem dX4_parseNumber_75 : decode cX4_parseNumber 75 = .ok (.bipush 48, 2) := by decide +kernel
theorem dX4_parseNumber_77 : decode cX4_parseNumber 77 = .ok (.isub, 1) := by decide +kernel
theorem dX4_parseNumber_78 : decode cX4_parseNumber 78 = .ok (.istore 5, 2) := by decide +kernel
theorem dX4_parseNumber_80 : decode cX4_parseNumber 80 = .ok (.iinc 4 1, 3) := by decide +kernel
theorem dX4_parseNumber_83 : decode cX4_parseNumber 83 = .ok (.aload_n 0, 1) := by decide +kernel
theorem dX4_parseNumber_84 : decode cX4_parseNumber 84 = .ok (.dup, 1) := by decide +kernel
theorem dX4_parseNumber_85 : decode cX4_parseNumber 85 = .ok (.getfield 29, 3) := by decide +kernel
theorem dX4_parseNumber_88 : decode cX4_parseNumber 88 = .ok (.iconst 1, 1) := by decide +kernel
theorem dX4_parseNumber_89 : decode cX4_parseNumber 89 = .ok (.iadd, 1) := by decide +kernel
theorem dX4_parseNumber_90 : decode cX4_parseNumber 90 = .ok (.putfield 29, 3) := by decide +kernel
theorem dX4_parseNumber_93 : decode cX4_parseNumber 93 = .ok (.goto (-53), 3) := by decide +kernel
theorem dX4_parseNumber_96 : decode cX4_parseNumber 96 = .ok (.iload 4, 2) := by decide +kernel
theorem dX4_parseNumber_98 : decode cX4_parseNumber 98 = .ok (.iconst 1, 1) := by decide +kernel
theorem dX4_parseNumber_99 : decode cX4_parseNumber 99 = .ok (.iconst 3, 1) := by decide +kernel
theorem dX4_parseNumber_100 : decode cX4_parseNumber 100 = .ok (.invokestatic 56, 3) := by decide +kernel
theorem dX4_parseNumber_103 : decode cX4_parseNumber 103 = .ok (.ifCond .ne 5, 3) := by decide +kernel
theorem dX4_parseNumber_106 : decode cX4_parseNumber 106 = .ok (.iload_n 2, 1) := by decide +kernel
theorem dX4_parseNumber_107 : decode cX4_parseNumber 107 = .ok (.ireturn, 1) := by decide +kernel
theorem dX4_parseNumber_108 : decode cX4_parseNumber 108 = .ok (.aload_n 0, 1) := by decide +kernel
theorem dX4_parseNumber_109 : decode cX4_parseNumber 109 = .ok (.iload_n 1, 1) := by decide +kernel
theorem dX4_parseNumber_110 : decode cX4_parseNumber 110 = .ok (.iload_n 3, 1) := by decide +kernel
theorem dX4_parseNumber_111 : decode cX4_parseNumber 111 = .ok (.ifCond .eq 9, 3) := by decide +kernel
theorem dX4_parseNumber_114 : decode cX4_parseNumber 114 = .ok (.iload 5, 2) := by decide +kernel
theorem dX4_parseNumber_116 : decode cX4_parseNumber 116 = .ok (.ineg, 1) := by decide +kernel
theorem dX4_parseNumber_117 : decode cX4_parseNumber 117 = .ok (.goto 5, 3) := by decide +kernel
theorem dX4_parseNumber_120 : decode cX4_parseNumber 120 = .ok (.iload 5, 2) := by decide +kernel
theorem dX4_parseNumber_122 : decode cX4_parseNumber 122 = .ok (.invokevirtual 49, 3) := by decide +kernel
theorem dX4_parseNumber_125 : decode cX4_parseNumber 125 = .ok (.ireturn, 1) := by decide +kernel
theorem dX4_keepNote_0 : decode cX4_keepNote 0 = .ok (.iload_n 1, 1) := by decide +kernel
theorem dX4_keepNote_1 : decode cX4_keepNote 1 = .ok (.ifCond .lt 19, 3) := by decide +kernel
theorem dX4_keepNote_4 : decode cX4_keepNote 4 = .ok (.iload_n 1, 1) := by decide +kernel
theorem dX4_keepNote_5 : decode cX4_keepNote 5 = .ok (.aload_n 0, 1) := by decide +kernel
theorem dX4_keepNote_6 : decode cX4_keepNote 6 = .ok (.getfield 15, 3) := by decide +kernel
theorem dX4_keepNote_9 : decode cX4_keepNote 9 = .ok (.arraylength, 1) := by decide +kernel
theorem dX4_keepNote_10 : decode cX4_keepNote 10 = .ok (.if_icmp .ge 10, 3) := by decide +kernel
theorem dX4_keepNote_13 : decode cX4_keepNote 13 = .ok (.aload_n 0, 1) := by decide +kernel
theorem dX4_keepNote_14 : decode cX4_keepNote 14 = .ok (.getfield 15, 3) := by decide +kernel
theorem dX4_keepNote_17 : decode cX4_keepNote 17 = .ok (.iload_n 1, 1) := by decide +kernel
theorem dX4_keepNote_18 : decode cX4_keepNote 18 = .ok (.iload_n 2, 1) := by decide +kernel
theorem dX4_keepNote_19 : decode cX4_keepNote 19 = .ok (.iastore, 1) := by decide +kernel
theorem dX4_keepNote_20 : decode cX4_keepNote 20 = .ok (.iconst (-1), 1) := by decide +kernel
theorem dX4_keepNote_21 : decode cX4_keepNote 21 = .ok (.ireturn, 1) := by decide +kernel
set_option maxRecDepth 20000 in
theorem ggX4_skipBlanks_X4_here : GoodIn wsX4_skipBlanks wsX4_here := goodIn_r _ [7, 1, 2, 8, 9, 10, 11, 12, 13] (by decide +kernel) (by decide +kernel)
set_option maxRecDepth 20000 in
theorem gX4_skipBlanks_X4_here : GoodIn wsX4_skipBlanks (wsV RX4 45 RX4 yX4_here wsX4_here) := goodIn_app (goodIn_of _ (by decide +kernel)) ggX4_skipBlanks_X4_here
theorem dX4_skipBlanks_0 : decode cX4_skipBlanks 0 = .ok (.aload_n 0, 1) := by decide +kernel
theorem dX4_skipBlanks_1 : decode cX4_skipBlanks 1 = .ok (.getfield 29, 3) := by decide +kernel
theorem dX4_skipBlanks_4 : decode cX4_skipBlanks 4 = .ok (.aload_n 0, 1) := by decide +kernel
theorem dX4_skipBlanks_5 : decode cX4_skipBlanks 5 = .ok (.getfield 18, 3) := by decide +kernel
theorem dX4_skipBlanks_8 : decode cX4_skipBlanks 8 = .ok (.if_icmp .ge 25, 3) := by decide +kernel
theorem dX4_skipBlanks_11 : decode cX4_skipBlanks 11 = .ok (.aload_n 0, 1) := by decide +kernel
theorem dX4_skipBlanks_12 : decode cX4_skipBlanks 12 = .ok (.invokevirtual 45, 3) := by decide +kernel
theorem dX4_skipBlanks_15 : decode cX4_skipBlanks 15 = .ok (.bipush 32, 2) := by decide +kernel
theorem dX4_skipBlanks_17 : decode cX4_skipBlanks 17 = .ok (.if_icmp .ne 16, 3) := by decide +kernel
theorem dX4_skipBlanks_20 : decode cX4_skipBlanks 20 = .ok (.aload_n 0, 1) := by decide +kernel
theorem dX4_skipBlanks_21 : decode cX4_skipBlanks 21 = .ok (.dup, 1) := by decide +kernel
theorem dX4_skipBlanks_22 : decode cX4_skipBlanks 22 = .ok (.getfield 29, 3) := by decide +kernel
theorem dX4_skipBlanks_25 : decode cX4_skipBlanks 25 = .ok (.iconst 1, 1) := by decide +kernel
theorem dX4_skipBlanks_26 : decode cX4_skipBlanks 26 = .ok (.iadd, 1) := by decide +kernel
theorem dX4_skipBlanks_27 : decode cX4_skipBlanks 27 = .ok (.putfield 29, 3) := by decide +kernel
theorem dX4_skipBlanks_30 : decode cX4_skipBlanks 30 = .ok (.goto (-30), 3) := by decide +kernel
theorem dX4_skipBlanks_33 : decode cX4_skipBlanks 33 = .ok (.return_, 1) := by decide +kernel
theorem dX4_here_0 : decode cX4_here 0 = .ok (.aload_n 0, 1) := by decide +kernel
theorem dX4_here_1 : decode cX4_here 1 = .ok (.getfield 29, 3) := by decide +kernel
theorem dX4_here_4 : decode cX4_here 4 = .ok (.ifCond .lt 26, 3) := by decide +kernel
theorem dX4_here_7 : decode cX4_here 7 = .ok (.aload_n 0, 1) := by decide +kernel
theorem dX4_here_8 : decode cX4_here 8 = .ok (.getfield 29, 3) := by decide +kernel
theorem dX4_here_11 : decode cX4_here 11 = .ok (.aload_n 0, 1) := by decide +kernel
theorem dX4_here_12 : decode cX4_here 12 = .ok (.getfield 18, 3) := by decide +kernel
theorem dX4_here_15 : decode cX4_here 15 = .ok (.if_icmp .ge 15, 3) := by decide +kernel
theorem dX4_here_18 : decode cX4_here 18 = .ok (.aload_n 0, 1) := by decide +kernel
theorem dX4_here_19 : decode cX4_here 19 = .ok (.getfield 9, 3) := by decide +kernel
theorem dX4_here_22 : decode cX4_here 22 = .ok (.aload_n 0, 1) := by decide +kernel
theorem dX4_here_23 : decode cX4_here 23 = .ok (.getfield 29, 3) := by decide +kernel
theorem dX4_here_26 : decode cX4_here 26 = .ok (.iaload, 1) := by decide +kernel
theorem dX4_here_27 : decode cX4_here 27 = .ok (.goto 4, 3) := by decide +kernel
theorem dX4_here_30 : decode cX4_here 30 = .ok (.iconst (-1), 1) := by decide +kernel
theorem dX4_here_31 : decode cX4_here 31 = .ok (.ireturn, 1) := by decide +kernel
set_option maxRecDepth 20000 in
theorem ggX5_init_X0_init : GoodIn wsX5_init wsX0_init := goodIn_r _ [26, 27, 2, 3, 28, 29, 30, 31, 32, 33, 34, 35, 70, 71, 72, 73, 74] (by decide +kernel) (by decide +kernel)
set_option maxRecDepth 20000 in
theorem gX5_init_X0_init : GoodIn wsX5_init (wsX0_init) := ggX5_init_X0_init
set_option maxRecDepth 20000 in
theorem ggX5_init_X3_init : GoodIn wsX5_init wsX3_init := goodIn_r _ [38, 39, 2, 3, 40, 41, 5, 6, 42, 25, 26, 27, 28, 29, 30, 31, 32, 33, 34, 35, 83, 84, 85, 70, 71, 72, 73, 74] (by decide +kernel) (by decide +kernel)
set_option maxRecDepth 20000 in
theorem gX5_init_X3_init : GoodIn wsX5_init (wsX3_init) := ggX5_init_X3_init
set_option maxRecDepth 20000 in
theorem ggX5_init_X2_init : GoodIn wsX5_init wsX2_init := goodIn_r _ [45, 46, 2, 3, 47, 48, 49, 50, 51, 52, 28, 53, 54, 55, 56, 86, 87, 88, 89, 90, 91, 92, 93, 94] (by decide +kernel) (by decide +kernel)
set_option maxRecDepth 20000 in
theorem gX5_init_X2_init : GoodIn wsX5_init (wsX2_init) := ggX5_init_X2_init
set_option maxRecDepth 20000 in
theorem ggX5_init_X1_init : GoodIn wsX5_init wsX1_init := goodIn_r _ [59, 60, 2, 3, 28, 61, 47, 62, 63, 95, 96, 97, 98] (by decide +kernel) (by decide +kernel)
set_option maxRecDepth 20000 in
theorem gX5_init_X1_init : GoodIn wsX5_init (wsX1_init) := ggX5_init_X1_init
set_option maxRecDepth 20000 in
theorem ggX5_init_X4_init : GoodIn wsX5_init wsX4_init := goodIn_r _ [66, 67, 2, 3, 28, 68, 69, 99, 100, 101, 102, 103] (by decide +kernel) (by decide +kernel)
set_option maxRecDepth 20000 in
theorem gX5_init_X4_init : GoodIn wsX5_init (wsX4_init) := ggX5_init_X4_init
theorem dX5_init_0 : decode cX5_init 0 = .ok (.aload_n 0, 1) := by decide +kernel
theorem dX5_init_1 : decode cX5_init 1 = .ok (.invokespecial 1, 3) := by decide +kernel
theorem dX5_init_4 : decode cX5_init 4 = .ok (.aload_n 0, 1) := by decide +kernel
theorem dX5_init_5 : decode cX5_init 5 = .ok (.new 7, 3) := by decide +kernel
theorem dX5_init_8 : decode cX5_init 8 = .ok (.dup, 1) := by decide +kernel
theorem dX5_init_9 : decode cX5_init 9 = .ok (.invokespecial 9, 3) := by decide +kernel
theorem dX5_init_12 : decode cX5_init 12 = .ok (.putfield 10, 3) := by decide +kernel
theorem dX5_init_15 : decode cX5_init 15 = .ok (.aload_n 0, 1) := by decide +kernel
theorem dX5_init_16 : decode cX5_init 16 = .ok (.new 16, 3) := by decide +kernel
theorem dX5_init_19 : decode cX5_init 19 = .ok (.dup, 1) := by decide +kernel
theorem dX5_init_20 : decode cX5_init 20 = .ok (.invokespecial 18, 3) := by decide +kernel
theorem dX5_init_23 : decode cX5_init 23 = .ok (.putfield 19, 3) := by decide +kernel
theorem dX5_init_26 : decode cX5_init 26 = .ok (.aload_n 0, 1) := by decide +kernel
theorem dX5_init_27 : decode cX5_init 27 = .ok (.new 23, 3) := by decide +kernel
theorem dX5_init_30 : decode cX5_init 30 = .ok (.dup, 1) := by decide +kernel
theorem dX5_init_31 : decode cX5_init 31 = .ok (.invokespecial 25, 3) := by decide +kernel
theorem dX5_init_34 : decode cX5_init 34 = .ok (.putfield 26, 3) := by decide +kernel
theorem dX5_init_37 : decode cX5_init 37 = .ok (.aload_n 0, 1) := by decide +kernel
theorem dX5_init_38 : decode cX5_init 38 = .ok (.new 30, 3) := by decide +kernel
theorem dX5_init_41 : decode cX5_init 41 = .ok (.dup, 1) := by decide +kernel
theorem dX5_init_42 : decode cX5_init 42 = .ok (.invokespecial 32, 3) := by decide +kernel
theorem dX5_init_45 : decode cX5_init 45 = .ok (.putfield 33, 3) := by decide +kernel
theorem dX5_init_48 : decode cX5_init 48 = .ok (.aload_n 0, 1) := by decide +kernel
theorem dX5_init_49 : decode cX5_init 49 = .ok (.new 37, 3) := by decide +kernel
theorem dX5_init_52 : decode cX5_init 52 = .ok (.dup, 1) := by decide +kernel
theorem dX5_init_53 : decode cX5_init 53 = .ok (.invokespecial 39, 3) := by decide +kernel
theorem dX5_init_56 : decode cX5_init 56 = .ok (.putfield 40, 3) := by decide +kernel
theorem dX5_init_59 : decode cX5_init 59 = .ok (.return_, 1) := by decide +kernel
set_option maxRecDepth 20000 in
theorem ggX5_day_X5_isNote : GoodIn wsX5_day wsX5_isNote := goodIn_r _ [5, 6, 7, 4, 8] (by decide +kernel) (by decide +kernel)
set_option maxRecDepth 20000 in
theorem gX5_day_X5_isNote : GoodIn wsX5_day (va_wsS RX5 44 yX5_isNote wsX5_isNote) := goodIn_app (goodIn_of _ (by decide +kernel)) ggX5_day_X5_isNote
set_option maxRecDepth 20000 in
theorem ggX5_day_X5_refuseBad : GoodIn wsX5_day wsX5_refuseBad := goodIn_r _ [12, 13, 75, 76, 77, 78, 79, 80, 81, 82] (by decide +kernel) (by decide +kernel)
set_option maxRecDepth 20000 in
theorem gX5_day_X5_refuseBad : GoodIn wsX5_day (wsV RX5 48 RX5 yX5_refuseBad wsX5_refuseBad) := goodIn_app (goodIn_of _ (by decide +kernel)) ggX5_day_X5_refuseBad
set_option maxRecDepth 20000 in
theorem ggX5_day_X0_days : GoodIn wsX5_day wsX0_days := goodIn_r _ [18, 19, 83, 84, 85, 86, 87] (by decide +kernel) (by decide +kernel)
set_option maxRecDepth 20000 in
theorem gX5_day_X0_days : GoodIn wsX5_day (wsV RX5 52 RX0 yX0_days wsX0_days) := goodIn_app (goodIn_of _ (by decide +kernel)) ggX5_day_X0_days
set_option maxRecDepth 20000 in
theorem ggX5_day_X5_refuseFull : GoodIn wsX5_day wsX5_refuseFull := goodIn_r _ [23, 24, 75, 76, 77, 78, 79, 80, 81, 82] (by decide +kernel) (by decide +kernel)
set_option maxRecDepth 20000 in
theorem gX5_day_X5_refuseFull : GoodIn wsX5_day (wsV RX5 56 RX5 yX5_refuseFull wsX5_refuseFull) := goodIn_app (goodIn_of _ (by decide +kernel)) ggX5_day_X5_refuseFull
set_option maxRecDepth 20000 in
theorem ggX5_day_X5_keepState : GoodIn wsX5_day wsX5_keepState := goodIn_r _ [28, 29, 1, 30, 31, 32, 33, 34, 35, 36, 37, 38, 39, 40, 41, 42, 43, 44, 45, 17, 46, 47, 48, 49, 50, 51, 52, 19, 53, 54, 55, 56, 57, 58, 59, 60, 75, 76, 77, 78, 79, 80, 81, 82, 88, 89, 90, 83, 84, 85, 86, 87, 91, 92, 93, 94, 95, 96, 97, 98, 99] (by decide +kernel) (by decide +kernel)
set_option maxRecDepth 20000 in
theorem gX5_day_X5_keepState : GoodIn wsX5_day (wsV RX5 59 RX5 yX5_keepState wsX5_keepState) := goodIn_app (goodIn_of _ (by decide +kernel)) ggX5_day_X5_keepState
set_option maxRecDepth 20000 in
theorem ggX5_day_X0_append : GoodIn wsX5_day wsX0_append := goodIn_r _ [64, 19, 65, 66, 67, 17, 68, 47, 69, 70, 71, 72, 73, 4, 74, 6, 7, 8, 83, 84, 85, 86, 87] (by decide +kernel) (by decide +kernel)
set_option maxRecDepth 20000 in
theorem gX5_day_X0_append : GoodIn wsX5_day (wsV RX5 62 RX0 yX0_append wsX0_append) := goodIn_app (goodIn_of _ (by decide +kernel)) ggX5_day_X0_append
theorem dX5_day_0 : decode cX5_day 0 = .ok (.iload_n 1, 1) := by decide +kernel
theorem dX5_day_1 : decode cX5_day 1 = .ok (.invokestatic 44, 3) := by decide +kernel
theorem dX5_day_4 : decode cX5_day 4 = .ok (.ifCond .eq 25, 3) := by decide +kernel
theorem dX5_day_7 : decode cX5_day 7 = .ok (.iload_n 2, 1) := by decide +kernel
theorem dX5_day_8 : decode cX5_day 8 = .ok (.invokestatic 44, 3) := by decide +kernel
theorem dX5_day_11 : decode cX5_day 11 = .ok (.ifCond .eq 18, 3) := by decide +kernel
theorem dX5_day_14 : decode cX5_day 14 = .ok (.iload_n 3, 1) := by decide +kernel
theorem dX5_day_15 : decode cX5_day 15 = .ok (.invokestatic 44, 3) := by decide +kernel
theorem dX5_day_18 : decode cX5_day 18 = .ok (.ifCond .eq 11, 3) := by decide +kernel
theorem dX5_day_21 : decode cX5_day 21 = .ok (.iload 4, 2) := by decide +kernel
theorem dX5_day_23 : decode cX5_day 23 = .ok (.invokestatic 44, 3) := by decide +kernel
theorem dX5_day_26 : decode cX5_day 26 = .ok (.ifCond .ne 10, 3) := by decide +kernel
theorem dX5_day_29 : decode cX5_day 29 = .ok (.aload_n 0, 1) := by decide +kernel
theorem dX5_day_30 : decode cX5_day 30 = .ok (.bipush (-2), 2) := by decide +kernel
theorem dX5_day_32 : decode cX5_day 32 = .ok (.invokevirtual 48, 3) := by decide +kernel
theorem dX5_day_35 : decode cX5_day 35 = .ok (.ireturn, 1) := by decide +kernel
theorem dX5_day_36 : decode cX5_day 36 = .ok (.aload_n 0, 1) := by decide +kernel
theorem dX5_day_37 : decode cX5_day 37 = .ok (.getfield 10, 3) := by decide +kernel
theorem dX5_day_40 : decode cX5_day 40 = .ok (.invokevirtual 52, 3) := by decide +kernel
theorem dX5_day_43 : decode cX5_day 43 = .ok (.bipush 50, 2) := by decide +kernel
theorem dX5_day_45 : decode cX5_day 45 = .ok (.if_icmp .lt 8, 3) := by decide +kernel
theorem dX5_day_48 : decode cX5_day 48 = .ok (.aload_n 0, 1) := by decide +kernel
theorem dX5_day_49 : decode cX5_day 49 = .ok (.invokevirtual 56, 3) := by decide +kernel
theorem dX5_day_52 : decode cX5_day 52 = .ok (.ireturn, 1) := by decide +kernel
theorem dX5_day_53 : decode cX5_day 53 = .ok (.aload_n 0, 1) := by decide +kernel
theorem dX5_day_54 : decode cX5_day 54 = .ok (.invokevirtual 59, 3) := by decide +kernel
theorem dX5_day_57 : decode cX5_day 57 = .ok (.aload_n 0, 1) := by decide +kernel
theorem dX5_day_58 : decode cX5_day 58 = .ok (.getfield 10, 3) := by decide +kernel
theorem dX5_day_61 : decode cX5_day 61 = .ok (.iload_n 1, 1) := by decide +kernel
theorem dX5_day_62 : decode cX5_day 62 = .ok (.iload_n 2, 1) := by decide +kernel
theorem dX5_day_63 : decode cX5_day 63 = .ok (.iload_n 3, 1) := by decide +kernel
theorem dX5_day_64 : decode cX5_day 64 = .ok (.iload 4, 2) := by decide +kernel
theorem dX5_day_66 : decode cX5_day 66 = .ok (.invokevirtual 62, 3) := by decide +kernel
theorem dX5_day_69 : decode cX5_day 69 = .ok (.ireturn, 1) := by decide +kernel
set_option maxRecDepth 20000 in
theorem ggX5_sets_X0_has : GoodIn wsX5_sets wsX0_has := goodIn_r _ [6, 7, 76, 77, 78, 79, 80] (by decide +kernel) (by decide +kernel)
set_option maxRecDepth 20000 in
theorem gX5_sets_X0_has : GoodIn wsX5_sets (wsV RX5 66 RX0 yX0_has wsX0_has) := goodIn_app (goodIn_of _ (by decide +kernel)) ggX5_sets_X0_has
set_option maxRecDepth 20000 in
theorem ggX5_sets_X5_isMember : GoodIn wsX5_sets wsX5_isMember := goodIn_r _ [11, 12, 13, 10, 14] (by decide +kernel) (by decide +kernel)
set_option maxRecDepth 20000 in
theorem gX5_sets_X5_isMember : GoodIn wsX5_sets (va_wsS RX5 69 yX5_isMember wsX5_isMember) := goodIn_app (goodIn_of _ (by decide +kernel)) ggX5_sets_X5_isMember
set_option maxRecDepth 20000 in
theorem ggX5_sets_X5_isNote : GoodIn wsX5_sets wsX5_isNote := goodIn_r _ [17, 12, 13, 10, 14] (by decide +kernel) (by decide +kernel)
set_option maxRecDepth 20000 in
theorem gX5_sets_X5_isNote : GoodIn wsX5_sets (va_wsS RX5 44 yX5_isNote wsX5_isNote) := goodIn_app (goodIn_of _ (by decide +kernel)) ggX5_sets_X5_isNote
set_option maxRecDepth 20000 in
theorem ggX5_sets_X5_refuseBad : GoodIn wsX5_sets wsX5_refuseBad := goodIn_r _ [21, 22, 68, 69, 70, 71, 72, 73, 74, 75] (by decide +kernel) (by decide +kernel)
set_option maxRecDepth 20000 in
theorem gX5_sets_X5_refuseBad : GoodIn wsX5_sets (wsV RX5 48 RX5 yX5_refuseBad wsX5_refuseBad) := goodIn_app (goodIn_of _ (by decide +kernel)) ggX5_sets_X5_refuseBad
set_option maxRecDepth 20000 in
theorem ggX5_sets_X0_member : GoodIn wsX5_sets wsX0_member := goodIn_r _ [26, 27, 28, 3, 4, 5, 6, 7, 9, 10, 11, 12, 13, 14, 76, 77, 78, 79, 80] (by decide +kernel) (by decide +kernel)
set_option maxRecDepth 20000 in
theorem gX5_sets_X0_member : GoodIn wsX5_sets (wsV RX5 72 RX0 yX0_member wsX0_member) := goodIn_app (goodIn_of _ (by decide +kernel)) ggX5_sets_X0_member
set_option maxRecDepth 20000 in
theorem ggX5_sets_X5_keepState : GoodIn wsX5_sets wsX5_keepState := goodIn_r _ [32, 33, 1, 34, 35, 36, 37, 38, 39, 40, 41, 42, 43, 44, 45, 46, 47, 48, 49, 5, 50, 27, 51, 52, 53, 54, 55, 7, 56, 57, 58, 59, 60, 61, 62, 63, 68, 69, 70, 71, 72, 73, 74, 75, 81, 82, 83, 76, 77, 78, 79, 80, 84, 85, 86, 87, 88, 89, 90, 91, 92] (by decide +kernel) (by decide +kernel)
set_option maxRecDepth 20000 in
theorem gX5_sets_X5_keepState : GoodIn wsX5_sets (wsV RX5 59 RX5 yX5_keepState wsX5_keepState) := goodIn_app (goodIn_of _ (by decide +kernel)) ggX5_sets_X5_keepState
set_option maxRecDepth 20000 in
theorem ggX5_sets_X0_put : GoodIn wsX5_sets wsX0_put := goodIn_r _ [67, 27, 28, 3, 4, 5, 6, 7, 9, 10, 11, 12, 13, 14, 76, 77, 78, 79, 80] (by decide +kernel) (by decide +kernel)
set_option maxRecDepth 20000 in
theorem gX5_sets_X0_put : GoodIn wsX5_sets (wsV RX5 76 RX0 yX0_put wsX0_put) := goodIn_app (goodIn_of _ (by decide +kernel)) ggX5_sets_X0_put
theorem dX5_sets_0 : decode cX5_sets 0 = .ok (.aload_n 0, 1) := by decide +kernel
theorem dX5_sets_1 : decode cX5_sets 1 = .ok (.getfield 10, 3) := by decide +kernel
theorem dX5_sets_4 : decode cX5_sets 4 = .ok (.iload_n 1, 1) := by decide +kernel
theorem dX5_sets_5 : decode cX5_sets 5 = .ok (.invokevirtual 66, 3) := by decide +kernel
theorem dX5_sets_8 : decode cX5_sets 8 = .ok (.ifCond .eq 17, 3) := by decide +kernel
theorem dX5_sets_11 : decode cX5_sets 11 = .ok (.iload_n 2, 1) := by decide +kernel
theorem dX5_sets_12 : decode cX5_sets 12 = .ok (.invokestatic 69, 3) := by decide +kernel
theorem dX5_sets_15 : decode cX5_sets 15 = .ok (.ifCond .eq 10, 3) := by decide +kernel
theorem dX5_sets_18 : decode cX5_sets 18 = .ok (.iload_n 3, 1) := by decide +kernel
theorem dX5_sets_19 : decode cX5_sets 19 = .ok (.invokestatic 44, 3) := by decide +kernel
theorem dX5_sets_22 : decode cX5_sets 22 = .ok (.ifCond .ne 11, 3) := by decide +kernel
theorem dX5_sets_25 : decode cX5_sets 25 = .ok (.aload_n 0, 1) := by decide +kernel
theorem dX5_sets_26 : decode cX5_sets 26 = .ok (.sipush (-20000), 3) := by decide +kernel
theorem dX5_sets_29 : decode cX5_sets 29 = .ok (.invokevirtual 48, 3) := by decide +kernel
theorem dX5_sets_32 : decode cX5_sets 32 = .ok (.ireturn, 1) := by decide +kernel
theorem dX5_sets_33 : decode cX5_sets 33 = .ok (.aload_n 0, 1) := by decide +kernel
theorem dX5_sets_34 : decode cX5_sets 34 = .ok (.getfield 10, 3) := by decide +kernel
theorem dX5_sets_37 : decode cX5_sets 37 = .ok (.iload_n 1, 1) := by decide +kernel
theorem dX5_sets_38 : decode cX5_sets 38 = .ok (.iload_n 2, 1) := by decide +kernel
theorem dX5_sets_39 : decode cX5_sets 39 = .ok (.invokevirtual 72, 3) := by decide +kernel
theorem dX5_sets_42 : decode cX5_sets 42 = .ok (.istore 4, 2) := by decide +kernel
theorem dX5_sets_44 : decode cX5_sets 44 = .ok (.aload_n 0, 1) := by decide +kernel
theorem dX5_sets_45 : decode cX5_sets 45 = .ok (.invokevirtual 59, 3) := by decide +kernel
theorem dX5_sets_48 : decode cX5_sets 48 = .ok (.aload_n 0, 1) := by decide +kernel
theorem dX5_sets_49 : decode cX5_sets 49 = .ok (.getfield 10, 3) := by decide +kernel
theorem dX5_sets_52 : decode cX5_sets 52 = .ok (.iload_n 1, 1) := by decide +kernel
theorem dX5_sets_53 : decode cX5_sets 53 = .ok (.iload_n 2, 1) := by decide +kernel
theorem dX5_sets_54 : decode cX5_sets 54 = .ok (.iload_n 3, 1) := by decide +kernel
theorem dX5_sets_55 : decode cX5_sets 55 = .ok (.invokevirtual 76, 3) := by decide +kernel
theorem dX5_sets_58 : decode cX5_sets 58 = .ok (.iload 4, 2) := by decide +kernel
theorem dX5_sets_60 : decode cX5_sets 60 = .ok (.ireturn, 1) := by decide +kernel
set_option maxRecDepth 20000 in
theorem ggX5_draw_X5_isWithin : GoodIn wsX5_draw wsX5_isWithin := goodIn_r _ [6] (by decide +kernel) (by decide +kernel)
set_option maxRecDepth 20000 in
theorem gX5_draw_X5_isWithin : GoodIn wsX5_draw (va_wsS RX5 81 yX5_isWithin wsX5_isWithin) := goodIn_app (goodIn_of _ (by decide +kernel)) ggX5_draw_X5_isWithin
set_option maxRecDepth 20000 in
theorem ggX5_draw_X5_refuseBad : GoodIn wsX5_draw wsX5_refuseBad := goodIn_r _ [10, 11, 83, 84, 85, 86, 87, 88, 89, 90] (by decide +kernel) (by decide +kernel)
set_option maxRecDepth 20000 in
theorem gX5_draw_X5_refuseBad : GoodIn wsX5_draw (wsV RX5 48 RX5 yX5_refuseBad wsX5_refuseBad) := goodIn_app (goodIn_of _ (by decide +kernel)) ggX5_draw_X5_refuseBad
set_option maxRecDepth 20000 in
theorem ggX5_draw_X5_keepState : GoodIn wsX5_draw wsX5_keepState := goodIn_r _ [15, 16, 2, 17, 18, 19, 20, 21, 22, 23, 24, 25, 26, 27, 28, 29, 30, 31, 32, 33, 34, 35, 36, 37, 38, 39, 40, 41, 42, 43, 44, 45, 46, 47, 48, 49, 83, 84, 85, 86, 87, 88, 89, 90, 91, 92, 93, 94, 95, 96, 97, 98, 99, 100, 101, 102, 103, 104, 105, 106, 107] (by decide +kernel) (by decide +kernel)
set_option maxRecDepth 20000 in
theorem gX5_draw_X5_keepState : GoodIn wsX5_draw (wsV RX5 59 RX5 yX5_keepState wsX5_keepState) := goodIn_app (goodIn_of _ (by decide +kernel)) ggX5_draw_X5_keepState
set_option maxRecDepth 20000 in
theorem ggX5_draw_X0_fillByChance : GoodIn wsX5_draw wsX0_fillByChance := goodIn_r _ [53, 54, 26, 27, 28, 55, 56, 57, 41, 58, 59, 60, 61, 62, 63, 64, 65, 66, 67, 33, 68, 35, 69, 70, 71, 72, 73, 5, 74, 3, 4, 6, 75, 76, 77, 78, 79, 80, 81, 82, 94, 95, 96, 97, 98] (by decide +kernel) (by decide +kernel)
set_option maxRecDepth 20000 in
theorem gX5_draw_X0_fillByChance : GoodIn wsX5_draw (wsV RX5 85 RX0 yX0_fillByChance wsX0_fillByChance) := goodIn_app (goodIn_of _ (by decide +kernel)) ggX5_draw_X0_fillByChance
theorem dX5_draw_0 : decode cX5_draw 0 = .ok (.iload_n 1, 1) := by decide +kernel
theorem dX5_draw_1 : decode cX5_draw 1 = .ok (.iconst 0, 1) := by decide +kernel
theorem dX5_draw_2 : decode cX5_draw 2 = .ok (.ldc 80, 2) := by decide +kernel
theorem dX5_draw_4 : decode cX5_draw 4 = .ok (.invokestatic 81, 3) := by decide +kernel
theorem dX5_draw_7 : decode cX5_draw 7 = .ok (.ifCond .eq 13, 3) := by decide +kernel
theorem dX5_draw_10 : decode cX5_draw 10 = .ok (.iload_n 2, 1) := by decide +kernel
theorem dX5_draw_11 : decode cX5_draw 11 = .ok (.iconst 1, 1) := by decide +kernel
theorem dX5_draw_12 : decode cX5_draw 12 = .ok (.bipush 50, 2) := by decide +kernel
theorem dX5_draw_14 : decode cX5_draw 14 = .ok (.invokestatic 81, 3) := by decide +kernel
theorem dX5_draw_17 : decode cX5_draw 17 = .ok (.ifCond .ne 10, 3) := by decide +kernel
theorem dX5_draw_20 : decode cX5_draw 20 = .ok (.aload_n 0, 1) := by decide +kernel
theorem dX5_draw_21 : decode cX5_draw 21 = .ok (.bipush (-2), 2) := by decide +kernel
theorem dX5_draw_23 : decode cX5_draw 23 = .ok (.invokevirtual 48, 3) := by decide +kernel
theorem dX5_draw_26 : decode cX5_draw 26 = .ok (.ireturn, 1) := by decide +kernel
theorem dX5_draw_27 : decode cX5_draw 27 = .ok (.aload_n 0, 1) := by decide +kernel
theorem dX5_draw_28 : decode cX5_draw 28 = .ok (.invokevirtual 59, 3) := by decide +kernel
theorem dX5_draw_31 : decode cX5_draw 31 = .ok (.aload_n 0, 1) := by decide +kernel
theorem dX5_draw_32 : decode cX5_draw 32 = .ok (.getfield 10, 3) := by decide +kernel
theorem dX5_draw_35 : decode cX5_draw 35 = .ok (.iload_n 1, 1) := by decide +kernel
theorem dX5_draw_36 : decode cX5_draw 36 = .ok (.iload_n 2, 1) := by decide +kernel
theorem dX5_draw_37 : decode cX5_draw 37 = .ok (.invokevirtual 85, 3) := by decide +kernel
theorem dX5_draw_40 : decode cX5_draw 40 = .ok (.ireturn, 1) := by decide +kernel
set_option maxRecDepth 20000 in
theorem ggX5_empties_X0_days : GoodIn wsX5_empties wsX0_days := goodIn_r _ [6, 7, 57, 58, 59, 60, 61] (by decide +kernel) (by decide +kernel)
set_option maxRecDepth 20000 in
theorem gX5_empties_X0_days : GoodIn wsX5_empties (wsV RX5 52 RX0 yX0_days wsX0_days) := goodIn_app (goodIn_of _ (by decide +kernel)) ggX5_empties_X0_days
set_option maxRecDepth 20000 in
theorem ggX5_empties_X5_keepState : GoodIn wsX5_empties wsX5_keepState := goodIn_r _ [12, 13, 1, 14, 15, 16, 17, 18, 19, 20, 21, 22, 23, 24, 25, 26, 27, 28, 29, 5, 30, 31, 32, 33, 34, 35, 36, 7, 37, 38, 39, 40, 41, 42, 43, 44, 49, 50, 51, 52, 53, 54, 55, 56, 62, 63, 64, 57, 58, 59, 60, 61, 65, 66, 67, 68, 69, 70, 71, 72, 73] (by decide +kernel) (by decide +kernel)
set_option maxRecDepth 20000 in
theorem gX5_empties_X5_keepState : GoodIn wsX5_empties (wsV RX5 59 RX5 yX5_keepState wsX5_keepState) := goodIn_app (goodIn_of _ (by decide +kernel)) ggX5_empties_X5_keepState
set_option maxRecDepth 20000 in
theorem ggX5_empties_X0_removeAll : GoodIn wsX5_empties wsX0_removeAll := goodIn_r _ [48, 7, 57, 58, 59, 60, 61] (by decide +kernel) (by decide +kernel)
set_option maxRecDepth 20000 in
theorem gX5_empties_X0_removeAll : GoodIn wsX5_empties (wsV RX5 88 RX0 yX0_removeAll wsX0_removeAll) := goodIn_app (goodIn_of _ (by decide +kernel)) ggX5_empties_X0_removeAll
theorem dX5_empties_0 : decode cX5_empties 0 = .ok (.aload_n 0, 1) := by decide +kernel
theorem dX5_empties_1 : decode cX5_empties 1 = .ok (.getfield 10, 3) := by decide +kernel
theorem dX5_empties_4 : decode cX5_empties 4 = .ok (.invokevirtual 52, 3) := by decide +kernel
theorem dX5_empties_7 : decode cX5_empties 7 = .ok (.istore_n 1, 1) := by decide +kernel
theorem dX5_empties_8 : decode cX5_empties 8 = .ok (.aload_n 0, 1) := by decide +kernel
theorem dX5_empties_9 : decode cX5_empties 9 = .ok (.invokevirtual 59, 3) := by decide +kernel
theorem dX5_empties_12 : decode cX5_empties 12 = .ok (.aload_n 0, 1) := by decide +kernel
theorem dX5_empties_13 : decode cX5_empties 13 = .ok (.getfield 10, 3) := by decide +kernel
theorem dX5_empties_16 : decode cX5_empties 16 = .ok (.invokevirtual 88, 3) := by decide +kernel
theorem dX5_empties_19 : decode cX5_empties 19 = .ok (.iload_n 1, 1) := by decide +kernel
theorem dX5_empties_20 : decode cX5_empties 20 = .ok (.ireturn, 1) := by decide +kernel
set_option maxRecDepth 20000 in
theorem ggX5_rules_X5_isRule : GoodIn wsX5_rules wsX5_isRule := goodIn_r _ [5, 6, 7, 4, 8, 9, 10, 11] (by decide +kernel) (by decide +kernel)
set_option maxRecDepth 20000 in
theorem gX5_rules_X5_isRule : GoodIn wsX5_rules (va_wsS RX5 91 yX5_isRule wsX5_isRule) := goodIn_app (goodIn_of _ (by decide +kernel)) ggX5_rules_X5_isRule
set_option maxRecDepth 20000 in
theorem ggX5_rules_X5_refuseBad : GoodIn wsX5_rules wsX5_refuseBad := goodIn_r _ [15, 16, 63, 64, 65, 66, 67, 68, 69, 70] (by decide +kernel) (by decide +kernel)
set_option maxRecDepth 20000 in
theorem gX5_rules_X5_refuseBad : GoodIn wsX5_rules (wsV RX5 48 RX5 yX5_refuseBad wsX5_refuseBad) := goodIn_app (goodIn_of _ (by decide +kernel)) ggX5_rules_X5_refuseBad
set_option maxRecDepth 20000 in
theorem ggX5_rules_X0_rule : GoodIn wsX5_rules wsX0_rule := goodIn_r _ [21, 22, 23, 24, 10, 4, 11, 6, 7, 8, 71, 72, 73, 74, 75] (by decide +kernel) (by decide +kernel)
set_option maxRecDepth 20000 in
theorem gX5_rules_X0_rule : GoodIn wsX5_rules (wsV RX5 95 RX0 yX0_rule wsX0_rule) := goodIn_app (goodIn_of _ (by decide +kernel)) ggX5_rules_X0_rule
set_option maxRecDepth 20000 in
theorem ggX5_rules_X5_keepState : GoodIn wsX5_rules wsX5_keepState := goodIn_r _ [28, 29, 1, 30, 31, 32, 33, 34, 35, 36, 37, 38, 39, 40, 41, 42, 43, 44, 45, 20, 46, 47, 48, 49, 50, 51, 24, 52, 22, 23, 53, 54, 55, 56, 57, 58, 63, 64, 65, 66, 67, 68, 69, 70, 76, 77, 78, 71, 72, 73, 74, 75, 79, 80, 81, 82, 83, 84, 85, 86, 87] (by decide +kernel) (by decide +kernel)
set_option maxRecDepth 20000 in
theorem gX5_rules_X5_keepState : GoodIn wsX5_rules (wsV RX5 59 RX5 yX5_keepState wsX5_keepState) := goodIn_app (goodIn_of _ (by decide +kernel)) ggX5_rules_X5_keepState
set_option maxRecDepth 20000 in
theorem ggX5_rules_X0_setRule : GoodIn wsX5_rules wsX0_setRule := goodIn_r _ [62, 22, 23, 24, 10, 4, 11, 6, 7, 8, 71, 72, 73, 74, 75] (by decide +kernel) (by decide +kernel)
set_option maxRecDepth 20000 in
theorem gX5_rules_X0_setRule : GoodIn wsX5_rules (wsV RX5 98 RX0 yX0_setRule wsX0_setRule) := goodIn_app (goodIn_of _ (by decide +kernel)) ggX5_rules_X0_setRule
theorem dX5_rules_0 : decode cX5_rules 0 = .ok (.iload_n 1, 1) := by decide +kernel
theorem dX5_rules_1 : decode cX5_rules 1 = .ok (.iload_n 2, 1) := by decide +kernel
theorem dX5_rules_2 : decode cX5_rules 2 = .ok (.invokestatic 91, 3) := by decide +kernel
theorem dX5_rules_5 : decode cX5_rules 5 = .ok (.ifCond .ne 10, 3) := by decide +kernel
theorem dX5_rules_8 : decode cX5_rules 8 = .ok (.aload_n 0, 1) := by decide +kernel
theorem dX5_rules_9 : decode cX5_rules 9 = .ok (.bipush (-2), 2) := by decide +kernel
theorem dX5_rules_11 : decode cX5_rules 11 = .ok (.invokevirtual 48, 3) := by decide +kernel
theorem dX5_rules_14 : decode cX5_rules 14 = .ok (.ireturn, 1) := by decide +kernel
theorem dX5_rules_15 : decode cX5_rules 15 = .ok (.aload_n 0, 1) := by decide +kernel
theorem dX5_rules_16 : decode cX5_rules 16 = .ok (.getfield 10, 3) := by decide +kernel
theorem dX5_rules_19 : decode cX5_rules 19 = .ok (.iload_n 1, 1) := by decide +kernel
theorem dX5_rules_20 : decode cX5_rules 20 = .ok (.invokevirtual 95, 3) := by decide +kernel
theorem dX5_rules_23 : decode cX5_rules 23 = .ok (.istore_n 3, 1) := by decide +kernel
theorem dX5_rules_24 : decode cX5_rules 24 = .ok (.aload_n 0, 1) := by decide +kernel
theorem dX5_rules_25 : decode cX5_rules 25 = .ok (.invokevirtual 59, 3) := by decide +kernel
theorem dX5_rules_28 : decode cX5_rules 28 = .ok (.aload_n 0, 1) := by decide +kernel
theorem dX5_rules_29 : decode cX5_rules 29 = .ok (.getfield 10, 3) := by decide +kernel
theorem dX5_rules_32 : decode cX5_rules 32 = .ok (.iload_n 1, 1) := by decide +kernel
theorem dX5_rules_33 : decode cX5_rules 33 = .ok (.iload_n 2, 1) := by decide +kernel
theorem dX5_rules_34 : decode cX5_rules 34 = .ok (.invokevirtual 98, 3) := by decide +kernel
theorem dX5_rules_37 : decode cX5_rules 37 = .ok (.iload_n 3, 1) := by decide +kernel
theorem dX5_rules_38 : decode cX5_rules 38 = .ok (.ireturn, 1) := by decide +kernel
set_option maxRecDepth 20000 in
theorem ggX5_at_X0_has : GoodIn wsX5_at wsX0_has := goodIn_r _ [6, 7, 34, 35, 36, 37, 38] (by decide +kernel) (by decide +kernel)
set_option maxRecDepth 20000 in
theorem gX5_at_X0_has : GoodIn wsX5_at (wsV RX5 66 RX0 yX0_has wsX0_has) := goodIn_app (goodIn_of _ (by decide +kernel)) ggX5_at_X0_has
set_option maxRecDepth 20000 in
theorem ggX5_at_X5_isMember : GoodIn wsX5_at wsX5_isMember := goodIn_r _ [11, 12, 13, 10, 14] (by decide +kernel) (by decide +kernel)
set_option maxRecDepth 20000 in
theorem gX5_at_X5_isMember : GoodIn wsX5_at (va_wsS RX5 69 yX5_isMember wsX5_isMember) := goodIn_app (goodIn_of _ (by decide +kernel)) ggX5_at_X5_isMember
set_option maxRecDepth 20000 in
theorem ggX5_at_X5_refuseBad : GoodIn wsX5_at wsX5_refuseBad := goodIn_r _ [18, 19, 26, 27, 28, 29, 30, 31, 32, 33] (by decide +kernel) (by decide +kernel)
set_option maxRecDepth 20000 in
theorem gX5_at_X5_refuseBad : GoodIn wsX5_at (wsV RX5 48 RX5 yX5_refuseBad wsX5_refuseBad) := goodIn_app (goodIn_of _ (by decide +kernel)) ggX5_at_X5_refuseBad
set_option maxRecDepth 20000 in
theorem ggX5_at_X0_member : GoodIn wsX5_at wsX0_member := goodIn_r _ [23, 24, 25, 3, 4, 5, 6, 7, 9, 10, 11, 12, 13, 14, 34, 35, 36, 37, 38] (by decide +kernel) (by decide +kernel)
set_option maxRecDepth 20000 in
theorem gX5_at_X0_member : GoodIn wsX5_at (wsV RX5 72 RX0 yX0_member wsX0_member) := goodIn_app (goodIn_of _ (by decide +kernel)) ggX5_at_X0_member
theorem dX5_at_0 : decode cX5_at 0 = .ok (.aload_n 0, 1) := by decide +kernel
theorem dX5_at_1 : decode cX5_at 1 = .ok (.getfield 10, 3) := by decide +kernel
theorem dX5_at_4 : decode cX5_at 4 = .ok (.iload_n 1, 1) := by decide +kernel
theorem dX5_at_5 : decode cX5_at 5 = .ok (.invokevirtual 66, 3) := by decide +kernel
theorem dX5_at_8 : decode cX5_at 8 = .ok (.ifCond .eq 10, 3) := by decide +kernel
theorem dX5_at_11 : decode cX5_at 11 = .ok (.iload_n 2, 1) := by decide +kernel
theorem dX5_at_12 : decode cX5_at 12 = .ok (.invokestatic 69, 3) := by decide +kernel
theorem dX5_at_15 : decode cX5_at 15 = .ok (.ifCond .ne 11, 3) := by decide +kernel
theorem dX5_at_18 : decode cX5_at 18 = .ok (.aload_n 0, 1) := by decide +kernel
theorem dX5_at_19 : decode cX5_at 19 = .ok (.sipush (-20000), 3) := by decide +kernel
theorem dX5_at_22 : decode cX5_at 22 = .ok (.invokevirtual 48, 3) := by decide +kernel
theorem dX5_at_25 : decode cX5_at 25 = .ok (.ireturn, 1) := by decide +kernel
theorem dX5_at_26 : decode cX5_at 26 = .ok (.aload_n 0, 1) := by decide +kernel
theorem dX5_at_27 : decode cX5_at 27 = .ok (.getfield 10, 3) := by decide +kernel
theorem dX5_at_30 : decode cX5_at 30 = .ok (.iload_n 1, 1) := by decide +kernel
theorem dX5_at_31 : decode cX5_at 31 = .ok (.iload_n 2, 1) := by decide +kernel
theorem dX5_at_32 : decode cX5_at 32 = .ok (.invokevirtual 72, 3) := by decide +kernel
theorem dX5_at_35 : decode cX5_at 35 = .ok (.ireturn, 1) := by decide +kernel
set_option maxRecDepth 20000 in
theorem ggX5_distance_X0_has : GoodIn wsX5_distance wsX0_has := goodIn_r _ [7, 8, 108, 109, 110, 111, 112] (by decide +kernel) (by decide +kernel)
set_option maxRecDepth 20000 in
theorem gX5_distance_X0_has : GoodIn wsX5_distance (wsV RX5 66 RX0 yX0_has wsX0_has) := goodIn_app (goodIn_of _ (by decide +kernel)) ggX5_distance_X0_has
set_option maxRecDepth 20000 in
theorem ggX5_distance_X5_refuseBad : GoodIn wsX5_distance wsX5_refuseBad := goodIn_r _ [13, 14, 100, 101, 102, 103, 104, 105, 106, 107] (by decide +kernel) (by decide +kernel)
set_option maxRecDepth 20000 in
theorem gX5_distance_X5_refuseBad : GoodIn wsX5_distance (wsV RX5 48 RX5 yX5_refuseBad wsX5_refuseBad) := goodIn_app (goodIn_of _ (by decide +kernel)) ggX5_distance_X5_refuseBad
set_option maxRecDepth 20000 in
theorem ggX5_distance_X2_learn : GoodIn wsX5_distance wsX2_learn := goodIn_r _ [19, 20, 21, 22, 23, 24, 25, 26, 27, 28, 29, 30, 31, 6, 32, 8, 33, 34, 35, 18, 36, 37, 38, 39, 40, 41, 42, 43, 44, 4, 5, 7, 45, 12, 46, 47, 48, 49, 50, 51, 52, 53, 54, 55, 56, 57, 58, 59, 60, 61, 62, 63, 64, 65, 66, 67, 68, 69, 70, 71, 72, 73, 74, 75, 76, 77, 78, 79, 80, 81, 82, 83, 84, 85, 86, 87, 88, 89, 90, 113, 114, 115, 116, 117, 118, 119, 120, 121, 108, 109, 110, 111, 112] (by decide +kernel) (by decide +kernel)
set_option maxRecDepth 20000 in
theorem gX5_distance_X2_learn : GoodIn wsX5_distance (wsV RX5 102 RX2 yX2_learn wsX2_learn) := goodIn_app (goodIn_of _ (by decide +kernel)) ggX5_distance_X2_learn
set_option maxRecDepth 20000 in
theorem ggX5_distance_X2_between : GoodIn wsX5_distance wsX2_between := goodIn_r _ [86, 28, 64, 87, 88, 89, 18, 90, 25, 113, 114, 115, 116, 117, 118, 119, 120, 121] (by decide +kernel) (by decide +kernel)
set_option maxRecDepth 20000 in
theorem gX5_distance_X2_between : GoodIn wsX5_distance (wsV RX5 106 RX2 yX2_between wsX2_between) := goodIn_app (goodIn_of _ (by decide +kernel)) ggX5_distance_X2_between
set_option maxRecDepth 20000 in
theorem ggX5_distance_X5_bitsOrNone : GoodIn wsX5_distance wsX5_bitsOrNone := goodIn_r _ [94, 95, 96, 12, 97, 98, 99] (by decide +kernel) (by decide +kernel)
set_option maxRecDepth 20000 in
theorem gX5_distance_X5_bitsOrNone : GoodIn wsX5_distance (va_wsS RX5 110 yX5_bitsOrNone wsX5_bitsOrNone) := goodIn_app (goodIn_of _ (by decide +kernel)) ggX5_distance_X5_bitsOrNone
theorem dX5_distance_0 : decode cX5_distance 0 = .ok (.aload_n 0, 1) := by decide +kernel
theorem dX5_distance_1 : decode cX5_distance 1 = .ok (.getfield 10, 3) := by decide +kernel
theorem dX5_distance_4 : decode cX5_distance 4 = .ok (.iload_n 1, 1) := by decide +kernel
theorem dX5_distance_5 : decode cX5_distance 5 = .ok (.invokevirtual 66, 3) := by decide +kernel
theorem dX5_distance_8 : decode cX5_distance 8 = .ok (.ifCond .eq 19, 3) := by decide +kernel
theorem dX5_distance_11 : decode cX5_distance 11 = .ok (.aload_n 0, 1) := by decide +kernel
theorem dX5_distance_12 : decode cX5_distance 12 = .ok (.getfield 10, 3) := by decide +kernel
theorem dX5_distance_15 : decode cX5_distance 15 = .ok (.iload_n 2, 1) := by decide +kernel
theorem dX5_distance_16 : decode cX5_distance 16 = .ok (.invokevirtual 66, 3) := by decide +kernel
theorem dX5_distance_19 : decode cX5_distance 19 = .ok (.ifCond .eq 8, 3) := by decide +kernel
theorem dX5_distance_22 : decode cX5_distance 22 = .ok (.iload_n 1, 1) := by decide +kernel
theorem dX5_distance_23 : decode cX5_distance 23 = .ok (.iload_n 2, 1) := by decide +kernel
theorem dX5_distance_24 : decode cX5_distance 24 = .ok (.if_icmp .ne 10, 3) := by decide +kernel
theorem dX5_distance_27 : decode cX5_distance 27 = .ok (.aload_n 0, 1) := by decide +kernel
theorem dX5_distance_28 : decode cX5_distance 28 = .ok (.bipush (-2), 2) := by decide +kernel
theorem dX5_distance_30 : decode cX5_distance 30 = .ok (.invokevirtual 48, 3) := by decide +kernel
theorem dX5_distance_33 : decode cX5_distance 33 = .ok (.ireturn, 1) := by decide +kernel
theorem dX5_distance_34 : decode cX5_distance 34 = .ok (.aload_n 0, 1) := by decide +kernel
theorem dX5_distance_35 : decode cX5_distance 35 = .ok (.getfield 26, 3) := by decide +kernel
theorem dX5_distance_38 : decode cX5_distance 38 = .ok (.aload_n 0, 1) := by decide +kernel
theorem dX5_distance_39 : decode cX5_distance 39 = .ok (.getfield 10, 3) := by decide +kernel
theorem dX5_distance_42 : decode cX5_distance 42 = .ok (.iconst (-1), 1) := by decide +kernel
theorem dX5_distance_43 : decode cX5_distance 43 = .ok (.invokevirtual 102, 3) := by decide +kernel
theorem dX5_distance_46 : decode cX5_distance 46 = .ok (.aload_n 0, 1) := by decide +kernel
theorem dX5_distance_47 : decode cX5_distance 47 = .ok (.getfield 26, 3) := by decide +kernel
theorem dX5_distance_50 : decode cX5_distance 50 = .ok (.iload_n 1, 1) := by decide +kernel
theorem dX5_distance_51 : decode cX5_distance 51 = .ok (.iload_n 2, 1) := by decide +kernel
theorem dX5_distance_52 : decode cX5_distance 52 = .ok (.invokevirtual 106, 3) := by decide +kernel
theorem dX5_distance_55 : decode cX5_distance 55 = .ok (.invokestatic 110, 3) := by decide +kernel
theorem dX5_distance_58 : decode cX5_distance 58 = .ok (.ireturn, 1) := by decide +kernel
set_option maxRecDepth 20000 in
theorem ggX5_nearest_X0_has : GoodIn wsX5_nearest wsX0_has := goodIn_r _ [7, 8, 120, 121, 122, 123, 124] (by decide +kernel) (by decide +kernel)
set_option maxRecDepth 20000 in
theorem gX5_nearest_X0_has : GoodIn wsX5_nearest (wsV RX5 66 RX0 yX0_has wsX0_has) := goodIn_app (goodIn_of _ (by decide +kernel)) ggX5_nearest_X0_has
set_option maxRecDepth 20000 in
theorem ggX5_nearest_X5_isWithin : GoodIn wsX5_nearest wsX5_isWithin := goodIn_r _ [12] (by decide +kernel) (by decide +kernel)
set_option maxRecDepth 20000 in
theorem gX5_nearest_X5_isWithin : GoodIn wsX5_nearest (va_wsS RX5 81 yX5_isWithin wsX5_isWithin) := goodIn_app (goodIn_of _ (by decide +kernel)) ggX5_nearest_X5_isWithin
set_option maxRecDepth 20000 in
theorem ggX5_nearest_X5_refuseBad : GoodIn wsX5_nearest wsX5_refuseBad := goodIn_r _ [16, 17, 112, 113, 114, 115, 116, 117, 118, 119] (by decide +kernel) (by decide +kernel)
set_option maxRecDepth 20000 in
theorem gX5_nearest_X5_refuseBad : GoodIn wsX5_nearest (wsV RX5 48 RX5 yX5_refuseBad wsX5_refuseBad) := goodIn_app (goodIn_of _ (by decide +kernel)) ggX5_nearest_X5_refuseBad
set_option maxRecDepth 20000 in
theorem ggX5_nearest_X2_learn : GoodIn wsX5_nearest wsX2_learn := goodIn_r _ [22, 23, 24, 25, 26, 27, 28, 29, 30, 31, 32, 33, 34, 6, 35, 8, 36, 37, 38, 21, 39, 40, 41, 42, 43, 44, 45, 46, 47, 4, 5, 7, 48, 11, 49, 9, 10, 12, 50, 51, 52, 53, 54, 55, 56, 57, 58, 59, 60, 61, 62, 63, 64, 65, 66, 67, 68, 69, 70, 71, 72, 73, 74, 75, 76, 77, 78, 79, 80, 81, 82, 83, 84, 85, 86, 87, 88, 89, 90, 125, 126, 127, 128, 129, 130, 131, 132, 133, 120, 121, 122, 123, 124] (by decide +kernel) (by decide +kernel)
set_option maxRecDepth 20000 in
theorem gX5_nearest_X2_learn : GoodIn wsX5_nearest (wsV RX5 102 RX2 yX2_learn wsX2_learn) := goodIn_app (goodIn_of _ (by decide +kernel)) ggX5_nearest_X2_learn
set_option maxRecDepth 20000 in
theorem ggX5_nearest_X0_few : GoodIn wsX5_nearest wsX0_few := goodIn_r _ [94, 58, 120, 121, 122, 123, 124] (by decide +kernel) (by decide +kernel)
set_option maxRecDepth 20000 in
theorem gX5_nearest_X0_few : GoodIn wsX5_nearest (wsV RX5 114 RX0 yX0_few wsX0_few) := goodIn_app (goodIn_of _ (by decide +kernel)) ggX5_nearest_X0_few
set_option maxRecDepth 20000 in
theorem ggX5_nearest_X2_nearOnes : GoodIn wsX5_nearest wsX2_nearOnes := goodIn_r _ [98, 77, 24, 25, 26, 27, 87, 88, 89, 21, 90, 28, 125, 126, 127, 128, 129, 130, 131, 132, 133] (by decide +kernel) (by decide +kernel)
set_option maxRecDepth 20000 in
theorem gX5_nearest_X2_nearOnes : GoodIn wsX5_nearest (wsV RX5 117 RX2 yX2_nearOnes wsX2_nearOnes) := goodIn_app (goodIn_of _ (by decide +kernel)) ggX5_nearest_X2_nearOnes
set_option maxRecDepth 20000 in
theorem ggX5_nearest_X2_near : GoodIn wsX5_nearest wsX2_near := goodIn_r _ [102, 77, 82, 87, 88, 89, 21, 90, 28, 125, 126, 127, 128, 129, 130, 131, 132, 133] (by decide +kernel) (by decide +kernel)
set_option maxRecDepth 20000 in
theorem gX5_nearest_X2_near : GoodIn wsX5_nearest (wsV RX5 120 RX2 yX2_near wsX2_near) := goodIn_app (goodIn_of _ (by decide +kernel)) ggX5_nearest_X2_near
set_option maxRecDepth 20000 in
theorem ggX5_nearest_X2_between : GoodIn wsX5_nearest wsX2_between := goodIn_r _ [86, 31, 64, 87, 88, 89, 21, 90, 28, 125, 126, 127, 128, 129, 130, 131, 132, 133] (by decide +kernel) (by decide +kernel)
set_option maxRecDepth 20000 in
theorem gX5_nearest_X2_between : GoodIn wsX5_nearest (wsV RX5 106 RX2 yX2_between wsX2_between) := goodIn_app (goodIn_of _ (by decide +kernel)) ggX5_nearest_X2_between
set_option maxRecDepth 20000 in
theorem ggX5_nearest_X5_bitsOrNone : GoodIn wsX5_nearest wsX5_bitsOrNone := goodIn_r _ [106, 107, 108, 11, 109, 110, 111] (by decide +kernel) (by decide +kernel)
set_option maxRecDepth 20000 in
theorem gX5_nearest_X5_bitsOrNone : GoodIn wsX5_nearest (va_wsS RX5 110 yX5_bitsOrNone wsX5_bitsOrNone) := goodIn_app (goodIn_of _ (by decide +kernel)) ggX5_nearest_X5_bitsOrNone
theorem dX5_nearest_0 : decode cX5_nearest 0 = .ok (.aload_n 0, 1) := by decide +kernel
theorem dX5_nearest_1 : decode cX5_nearest 1 = .ok (.getfield 10, 3) := by decide +kernel
theorem dX5_nearest_4 : decode cX5_nearest 4 = .ok (.iload_n 1, 1) := by decide +kernel
theorem dX5_nearest_5 : decode cX5_nearest 5 = .ok (.invokevirtual 66, 3) := by decide +kernel
theorem dX5_nearest_8 : decode cX5_nearest 8 = .ok (.ifCond .eq 16, 3) := by decide +kernel
theorem dX5_nearest_11 : decode cX5_nearest 11 = .ok (.iload_n 2, 1) := by decide +kernel
theorem dX5_nearest_12 : decode cX5_nearest 12 = .ok (.ifCond .lt 12, 3) := by decide +kernel
theorem dX5_nearest_15 : decode cX5_nearest 15 = .ok (.iload_n 3, 1) := by decide +kernel
theorem dX5_nearest_16 : decode cX5_nearest 16 = .ok (.iconst 0, 1) := by decide +kernel
theorem dX5_nearest_17 : decode cX5_nearest 17 = .ok (.iconst 1, 1) := by decide +kernel
theorem dX5_nearest_18 : decode cX5_nearest 18 = .ok (.invokestatic 81, 3) := by decide +kernel
theorem dX5_nearest_21 : decode cX5_nearest 21 = .ok (.ifCond .ne 10, 3) := by decide +kernel
theorem dX5_nearest_24 : decode cX5_nearest 24 = .ok (.aload_n 0, 1) := by decide +kernel
theorem dX5_nearest_25 : decode cX5_nearest 25 = .ok (.bipush (-2), 2) := by decide +kernel
theorem dX5_nearest_27 : decode cX5_nearest 27 = .ok (.invokevirtual 48, 3) := by decide +kernel
theorem dX5_nearest_30 : decode cX5_nearest 30 = .ok (.ireturn, 1) := by decide +kernel
theorem dX5_nearest_31 : decode cX5_nearest 31 = .ok (.aload_n 0, 1) := by decide +kernel
theorem dX5_nearest_32 : decode cX5_nearest 32 = .ok (.getfield 26, 3) := by decide +kernel
theorem dX5_nearest_35 : decode cX5_nearest 35 = .ok (.aload_n 0, 1) := by decide +kernel
theorem dX5_nearest_36 : decode cX5_nearest 36 = .ok (.getfield 10, 3) := by decide +kernel
theorem dX5_nearest_39 : decode cX5_nearest 39 = .ok (.iconst (-1), 1) := by decide +kernel
theorem dX5_nearest_40 : decode cX5_nearest 40 = .ok (.invokevirtual 102, 3) := by decide +kernel
theorem dX5_nearest_43 : decode cX5_nearest 43 = .ok (.iload_n 2, 1) := by decide +kernel
theorem dX5_nearest_44 : decode cX5_nearest 44 = .ok (.aload_n 0, 1) := by decide +kernel
theorem dX5_nearest_45 : decode cX5_nearest 45 = .ok (.getfield 26, 3) := by decide +kernel
theorem dX5_nearest_48 : decode cX5_nearest 48 = .ok (.iload_n 1, 1) := by decide +kernel
theorem dX5_nearest_49 : decode cX5_nearest 49 = .ok (.aload_n 0, 1) := by decide +kernel
theorem dX5_nearest_50 : decode cX5_nearest 50 = .ok (.getfield 10, 3) := by decide +kernel
theorem dX5_nearest_53 : decode cX5_nearest 53 = .ok (.invokevirtual 114, 3) := by decide +kernel
theorem dX5_nearest_56 : decode cX5_nearest 56 = .ok (.invokevirtual 117, 3) := by decide +kernel
theorem dX5_nearest_59 : decode cX5_nearest 59 = .ok (.if_icmp .lt 5, 3) := by decide +kernel
theorem dX5_nearest_62 : decode cX5_nearest 62 = .ok (.iconst (-1), 1) := by decide +kernel
theorem dX5_nearest_63 : decode cX5_nearest 63 = .ok (.ireturn, 1) := by decide +kernel
theorem dX5_nearest_64 : decode cX5_nearest 64 = .ok (.aload_n 0, 1) := by decide +kernel
theorem dX5_nearest_65 : decode cX5_nearest 65 = .ok (.getfield 26, 3) := by decide +kernel
theorem dX5_nearest_68 : decode cX5_nearest 68 = .ok (.iload_n 1, 1) := by decide +kernel
theorem dX5_nearest_69 : decode cX5_nearest 69 = .ok (.iload_n 2, 1) := by decide +kernel
theorem dX5_nearest_70 : decode cX5_nearest 70 = .ok (.invokevirtual 120, 3) := by decide +kernel
theorem dX5_nearest_73 : decode cX5_nearest 73 = .ok (.istore 4, 2) := by decide +kernel
theorem dX5_nearest_75 : decode cX5_nearest 75 = .ok (.iload_n 3, 1) := by decide +kernel
theorem dX5_nearest_76 : decode cX5_nearest 76 = .ok (.ifCond .ne 8, 3) := by decide +kernel
theorem dX5_nearest_79 : decode cX5_nearest 79 = .ok (.iload 4, 2) := by decide +kernel
theorem dX5_nearest_81 : decode cX5_nearest 81 = .ok (.goto 16, 3) := by decide +kernel
theorem dX5_nearest_84 : decode cX5_nearest 84 = .ok (.aload_n 0, 1) := by decide +kernel
theorem dX5_nearest_85 : decode cX5_nearest 85 = .ok (.getfield 26, 3) := by decide +kernel
theorem dX5_nearest_88 : decode cX5_nearest 88 = .ok (.iload_n 1, 1) := by decide +kernel
theorem dX5_nearest_89 : decode cX5_nearest 89 = .ok (.iload 4, 2) := by decide +kernel
theorem dX5_nearest_91 : decode cX5_nearest 91 = .ok (.invokevirtual 106, 3) := by decide +kernel
theorem dX5_nearest_94 : decode cX5_nearest 94 = .ok (.invokestatic 110, 3) := by decide +kernel
theorem dX5_nearest_97 : decode cX5_nearest 97 = .ok (.ireturn, 1) := by decide +kernel
set_option maxRecDepth 20000 in
theorem ggX5_likes_X0_has : GoodIn wsX5_likes wsX0_has := goodIn_r _ [7, 8, 103, 104, 105, 106, 107] (by decide +kernel) (by decide +kernel)
set_option maxRecDepth 20000 in
theorem gX5_likes_X0_has : GoodIn wsX5_likes (wsV RX5 66 RX0 yX0_has wsX0_has) := goodIn_app (goodIn_of _ (by decide +kernel)) ggX5_likes_X0_has
set_option maxRecDepth 20000 in
theorem ggX5_likes_X5_refuseBad : GoodIn wsX5_likes wsX5_refuseBad := goodIn_r _ [13, 14, 95, 96, 97, 98, 99, 100, 101, 102] (by decide +kernel) (by decide +kernel)
set_option maxRecDepth 20000 in
theorem gX5_likes_X5_refuseBad : GoodIn wsX5_likes (wsV RX5 48 RX5 yX5_refuseBad wsX5_refuseBad) := goodIn_app (goodIn_of _ (by decide +kernel)) ggX5_likes_X5_refuseBad
set_option maxRecDepth 20000 in
theorem ggX5_likes_X2_learn : GoodIn wsX5_likes wsX2_learn := goodIn_r _ [19, 20, 21, 22, 23, 24, 25, 26, 27, 28, 29, 30, 31, 6, 32, 8, 33, 34, 35, 18, 36, 37, 38, 39, 40, 41, 42, 43, 44, 4, 5, 7, 45, 12, 46, 47, 48, 49, 50, 51, 52, 53, 54, 55, 56, 57, 58, 59, 60, 61, 62, 63, 64, 65, 66, 67, 68, 69, 70, 71, 72, 73, 74, 75, 76, 77, 78, 79, 80, 81, 82, 83, 84, 85, 86, 87, 88, 89, 90, 108, 109, 110, 111, 112, 113, 114, 115, 116, 103, 104, 105, 106, 107] (by decide +kernel) (by decide +kernel)
set_option maxRecDepth 20000 in
theorem gX5_likes_X2_learn : GoodIn wsX5_likes (wsV RX5 102 RX2 yX2_learn wsX2_learn) := goodIn_app (goodIn_of _ (by decide +kernel)) ggX5_likes_X2_learn
set_option maxRecDepth 20000 in
theorem ggX5_likes_X2_likeOnes : GoodIn wsX5_likes wsX2_likeOnes := goodIn_r _ [94, 76, 87, 88, 89, 18, 90, 25, 108, 109, 110, 111, 112, 113, 114, 115, 116] (by decide +kernel) (by decide +kernel)
set_option maxRecDepth 20000 in
theorem gX5_likes_X2_likeOnes : GoodIn wsX5_likes (wsV RX5 123 RX2 yX2_likeOnes wsX2_likeOnes) := goodIn_app (goodIn_of _ (by decide +kernel)) ggX5_likes_X2_likeOnes
theorem dX5_likes_0 : decode cX5_likes 0 = .ok (.aload_n 0, 1) := by decide +kernel
theorem dX5_likes_1 : decode cX5_likes 1 = .ok (.getfield 10, 3) := by decide +kernel
theorem dX5_likes_4 : decode cX5_likes 4 = .ok (.iload_n 1, 1) := by decide +kernel
theorem dX5_likes_5 : decode cX5_likes 5 = .ok (.invokevirtual 66, 3) := by decide +kernel
theorem dX5_likes_8 : decode cX5_likes 8 = .ok (.ifCond .ne 10, 3) := by decide +kernel
theorem dX5_likes_11 : decode cX5_likes 11 = .ok (.aload_n 0, 1) := by decide +kernel
theorem dX5_likes_12 : decode cX5_likes 12 = .ok (.bipush (-2), 2) := by decide +kernel
theorem dX5_likes_14 : decode cX5_likes 14 = .ok (.invokevirtual 48, 3) := by decide +kernel
theorem dX5_likes_17 : decode cX5_likes 17 = .ok (.ireturn, 1) := by decide +kernel
theorem dX5_likes_18 : decode cX5_likes 18 = .ok (.aload_n 0, 1) := by decide +kernel
theorem dX5_likes_19 : decode cX5_likes 19 = .ok (.getfield 26, 3) := by decide +kernel
theorem dX5_likes_22 : decode cX5_likes 22 = .ok (.aload_n 0, 1) := by decide +kernel
theorem dX5_likes_23 : decode cX5_likes 23 = .ok (.getfield 10, 3) := by decide +kernel
theorem dX5_likes_26 : decode cX5_likes 26 = .ok (.iconst (-1), 1) := by decide +kernel
theorem dX5_likes_27 : decode cX5_likes 27 = .ok (.invokevirtual 102, 3) := by decide +kernel
theorem dX5_likes_30 : decode cX5_likes 30 = .ok (.aload_n 0, 1) := by decide +kernel
theorem dX5_likes_31 : decode cX5_likes 31 = .ok (.getfield 26, 3) := by decide +kernel
theorem dX5_likes_34 : decode cX5_likes 34 = .ok (.iload_n 1, 1) := by decide +kernel
theorem dX5_likes_35 : decode cX5_likes 35 = .ok (.invokevirtual 123, 3) := by decide +kernel
theorem dX5_likes_38 : decode cX5_likes 38 = .ok (.ireturn, 1) := by decide +kernel
set_option maxRecDepth 20000 in
theorem ggX5_serves_X0_has : GoodIn wsX5_serves wsX0_has := goodIn_r _ [7, 8, 116, 117, 118, 119, 120] (by decide +kernel) (by decide +kernel)
set_option maxRecDepth 20000 in
theorem gX5_serves_X0_has : GoodIn wsX5_serves (wsV RX5 66 RX0 yX0_has wsX0_has) := goodIn_app (goodIn_of _ (by decide +kernel)) ggX5_serves_X0_has
set_option maxRecDepth 20000 in
theorem ggX5_serves_X5_refuseBad : GoodIn wsX5_serves wsX5_refuseBad := goodIn_r _ [13, 14, 108, 109, 110, 111, 112, 113, 114, 115] (by decide +kernel) (by decide +kernel)
set_option maxRecDepth 20000 in
theorem gX5_serves_X5_refuseBad : GoodIn wsX5_serves (wsV RX5 48 RX5 yX5_refuseBad wsX5_refuseBad) := goodIn_app (goodIn_of _ (by decide +kernel)) ggX5_serves_X5_refuseBad
set_option maxRecDepth 20000 in
theorem ggX5_serves_X2_learn : GoodIn wsX5_serves wsX2_learn := goodIn_r _ [19, 20, 21, 22, 23, 24, 25, 26, 27, 28, 29, 30, 31, 6, 32, 8, 33, 34, 35, 18, 36, 37, 38, 39, 40, 41, 42, 43, 44, 4, 5, 7, 45, 12, 46, 47, 48, 49, 50, 51, 52, 53, 54, 55, 56, 57, 58, 59, 60, 61, 62, 63, 64, 65, 66, 67, 68, 69, 70, 71, 72, 73, 74, 75, 76, 77, 78, 79, 80, 81, 82, 83, 84, 85, 86, 87, 88, 89, 90, 121, 122, 123, 124, 125, 126, 127, 128, 129, 116, 117, 118, 119, 120] (by decide +kernel) (by decide +kernel)
set_option maxRecDepth 20000 in
theorem gX5_serves_X2_learn : GoodIn wsX5_serves (wsV RX5 102 RX2 yX2_learn wsX2_learn) := goodIn_app (goodIn_of _ (by decide +kernel)) ggX5_serves_X2_learn
set_option maxRecDepth 20000 in
theorem ggX5_serves_X0_days : GoodIn wsX5_serves wsX0_days := goodIn_r _ [32, 8, 116, 117, 118, 119, 120] (by decide +kernel) (by decide +kernel)
set_option maxRecDepth 20000 in
theorem gX5_serves_X0_days : GoodIn wsX5_serves (wsV RX5 52 RX0 yX0_days wsX0_days) := goodIn_app (goodIn_of _ (by decide +kernel)) ggX5_serves_X0_days
set_option maxRecDepth 20000 in
theorem ggX5_serves_X0_few : GoodIn wsX5_serves wsX0_few := goodIn_r _ [95, 58, 116, 117, 118, 119, 120] (by decide +kernel) (by decide +kernel)
set_option maxRecDepth 20000 in
theorem gX5_serves_X0_few : GoodIn wsX5_serves (wsV RX5 114 RX0 yX0_few wsX0_few) := goodIn_app (goodIn_of _ (by decide +kernel)) ggX5_serves_X0_few
set_option maxRecDepth 20000 in
theorem ggX5_serves_X2_isNear : GoodIn wsX5_serves wsX2_isNear := goodIn_r _ [99, 100, 101, 102, 18, 103, 77, 21, 22, 23, 24, 87, 88, 89, 90, 25, 104, 105, 106, 107, 82, 121, 122, 123, 124, 125, 126, 127, 128, 129] (by decide +kernel) (by decide +kernel)
set_option maxRecDepth 20000 in
theorem gX5_serves_X2_isNear : GoodIn wsX5_serves (wsV RX5 126 RX2 yX2_isNear wsX2_isNear) := goodIn_app (goodIn_of _ (by decide +kernel)) ggX5_serves_X2_isNear
theorem dX5_serves_0 : decode cX5_serves 0 = .ok (.aload_n 0, 1) := by decide +kernel
theorem dX5_serves_1 : decode cX5_serves 1 = .ok (.getfield 10, 3) := by decide +kernel
theorem dX5_serves_4 : decode cX5_serves 4 = .ok (.iload_n 1, 1) := by decide +kernel
theorem dX5_serves_5 : decode cX5_serves 5 = .ok (.invokevirtual 66, 3) := by decide +kernel
theorem dX5_serves_8 : decode cX5_serves 8 = .ok (.ifCond .ne 10, 3) := by decide +kernel
theorem dX5_serves_11 : decode cX5_serves 11 = .ok (.aload_n 0, 1) := by decide +kernel
theorem dX5_serves_12 : decode cX5_serves 12 = .ok (.bipush (-2), 2) := by decide +kernel
theorem dX5_serves_14 : decode cX5_serves 14 = .ok (.invokevirtual 48, 3) := by decide +kernel
theorem dX5_serves_17 : decode cX5_serves 17 = .ok (.ireturn, 1) := by decide +kernel
theorem dX5_serves_18 : decode cX5_serves 18 = .ok (.aload_n 0, 1) := by decide +kernel
theorem dX5_serves_19 : decode cX5_serves 19 = .ok (.getfield 26, 3) := by decide +kernel
theorem dX5_serves_22 : decode cX5_serves 22 = .ok (.aload_n 0, 1) := by decide +kernel
theorem dX5_serves_23 : decode cX5_serves 23 = .ok (.getfield 10, 3) := by decide +kernel
theorem dX5_serves_26 : decode cX5_serves 26 = .ok (.iconst (-1), 1) := by decide +kernel
theorem dX5_serves_27 : decode cX5_serves 27 = .ok (.invokevirtual 102, 3) := by decide +kernel
theorem dX5_serves_30 : decode cX5_serves 30 = .ok (.iconst 0, 1) := by decide +kernel
theorem dX5_serves_31 : decode cX5_serves 31 = .ok (.istore_n 2, 1) := by decide +kernel
theorem dX5_serves_32 : decode cX5_serves 32 = .ok (.iconst 0, 1) := by decide +kernel
theorem dX5_serves_33 : decode cX5_serves 33 = .ok (.istore_n 3, 1) := by decide +kernel
theorem dX5_serves_34 : decode cX5_serves 34 = .ok (.iload_n 3, 1) := by decide +kernel
theorem dX5_serves_35 : decode cX5_serves 35 = .ok (.aload_n 0, 1) := by decide +kernel
theorem dX5_serves_36 : decode cX5_serves 36 = .ok (.getfield 10, 3) := by decide +kernel
theorem dX5_serves_39 : decode cX5_serves 39 = .ok (.invokevirtual 52, 3) := by decide +kernel
theorem dX5_serves_42 : decode cX5_serves 42 = .ok (.if_icmp .ge 31, 3) := by decide +kernel
theorem dX5_serves_45 : decode cX5_serves 45 = .ok (.aload_n 0, 1) := by decide +kernel
theorem dX5_serves_46 : decode cX5_serves 46 = .ok (.getfield 26, 3) := by decide +kernel
theorem dX5_serves_49 : decode cX5_serves 49 = .ok (.iload_n 3, 1) := by decide +kernel
theorem dX5_serves_50 : decode cX5_serves 50 = .ok (.iload_n 1, 1) := by decide +kernel
theorem dX5_serves_51 : decode cX5_serves 51 = .ok (.aload_n 0, 1) := by decide +kernel
theorem dX5_serves_52 : decode cX5_serves 52 = .ok (.getfield 10, 3) := by decide +kernel
theorem dX5_serves_55 : decode cX5_serves 55 = .ok (.invokevirtual 114, 3) := by decide +kernel
theorem dX5_serves_58 : decode cX5_serves 58 = .ok (.invokevirtual 126, 3) := by decide +kernel
theorem dX5_serves_61 : decode cX5_serves 61 = .ok (.ifCond .eq 6, 3) := by decide +kernel
theorem dX5_serves_64 : decode cX5_serves 64 = .ok (.iinc 2 1, 3) := by decide +kernel
theorem dX5_serves_67 : decode cX5_serves 67 = .ok (.iinc 3 1, 3) := by decide +kernel
theorem dX5_serves_70 : decode cX5_serves 70 = .ok (.goto (-36), 3) := by decide +kernel
theorem dX5_serves_73 : decode cX5_serves 73 = .ok (.iload_n 2, 1) := by decide +kernel
theorem dX5_serves_74 : decode cX5_serves 74 = .ok (.ireturn, 1) := by decide +kernel
set_option maxRecDepth 20000 in
theorem ggX5_twins_X5_isWithin : GoodIn wsX5_twins wsX5_isWithin := goodIn_r _ [7] (by decide +kernel) (by decide +kernel)
set_option maxRecDepth 20000 in
theorem gX5_twins_X5_isWithin : GoodIn wsX5_twins (va_wsS RX5 81 yX5_isWithin wsX5_isWithin) := goodIn_app (goodIn_of _ (by decide +kernel)) ggX5_twins_X5_isWithin
set_option maxRecDepth 20000 in
theorem ggX5_twins_X5_refuseBad : GoodIn wsX5_twins wsX5_refuseBad := goodIn_r _ [11, 12, 104, 105, 106, 107, 108, 109, 110, 111] (by decide +kernel) (by decide +kernel)
set_option maxRecDepth 20000 in
theorem gX5_twins_X5_refuseBad : GoodIn wsX5_twins (wsV RX5 48 RX5 yX5_refuseBad wsX5_refuseBad) := goodIn_app (goodIn_of _ (by decide +kernel)) ggX5_twins_X5_refuseBad
set_option maxRecDepth 20000 in
theorem ggX5_twins_X2_learn : GoodIn wsX5_twins wsX2_learn := goodIn_r _ [17, 18, 19, 20, 21, 22, 23, 24, 25, 26, 27, 28, 29, 30, 31, 32, 33, 34, 35, 16, 36, 37, 38, 39, 40, 41, 42, 43, 44, 45, 46, 47, 48, 6, 49, 4, 5, 7, 50, 51, 52, 53, 54, 55, 56, 57, 58, 59, 60, 61, 62, 63, 64, 65, 66, 67, 68, 69, 70, 71, 72, 73, 74, 75, 76, 77, 78, 79, 80, 81, 82, 83, 84, 85, 86, 87, 88, 89, 90, 112, 113, 114, 115, 116, 117, 118, 119, 120, 121, 122, 123, 124, 125] (by decide +kernel) (by decide +kernel)
set_option maxRecDepth 20000 in
theorem gX5_twins_X2_learn : GoodIn wsX5_twins (wsV RX5 102 RX2 yX2_learn wsX2_learn) := goodIn_app (goodIn_of _ (by decide +kernel)) ggX5_twins_X2_learn
set_option maxRecDepth 20000 in
theorem ggX5_twins_X0_days : GoodIn wsX5_twins wsX0_days := goodIn_r _ [31, 32, 121, 122, 123, 124, 125] (by decide +kernel) (by decide +kernel)
set_option maxRecDepth 20000 in
theorem gX5_twins_X0_days : GoodIn wsX5_twins (wsV RX5 52 RX0 yX0_days wsX0_days) := goodIn_app (goodIn_of _ (by decide +kernel)) ggX5_twins_X0_days
set_option maxRecDepth 20000 in
theorem ggX5_twins_X2_between : GoodIn wsX5_twins wsX2_between := goodIn_r _ [86, 26, 64, 87, 88, 89, 16, 90, 23, 112, 113, 114, 115, 116, 117, 118, 119, 120] (by decide +kernel) (by decide +kernel)
set_option maxRecDepth 20000 in
theorem gX5_twins_X2_between : GoodIn wsX5_twins (wsV RX5 106 RX2 yX2_between wsX2_between) := goodIn_app (goodIn_of _ (by decide +kernel)) ggX5_twins_X2_between
set_option maxRecDepth 20000 in
theorem ggX5_twins_X5_isLess : GoodIn wsX5_twins wsX5_isLess := goodIn_r _ [95] (by decide +kernel) (by decide +kernel)
set_option maxRecDepth 20000 in
theorem gX5_twins_X5_isLess : GoodIn wsX5_twins (va_wsS RX5 130 yX5_isLess wsX5_isLess) := goodIn_app (goodIn_of _ (by decide +kernel)) ggX5_twins_X5_isLess
set_option maxRecDepth 20000 in
theorem ggX5_twins_X5_bitsOrNone : GoodIn wsX5_twins wsX5_bitsOrNone := goodIn_r _ [98, 99, 100, 6, 101, 102, 103] (by decide +kernel) (by decide +kernel)
set_option maxRecDepth 20000 in
theorem gX5_twins_X5_bitsOrNone : GoodIn wsX5_twins (va_wsS RX5 110 yX5_bitsOrNone wsX5_bitsOrNone) := goodIn_app (goodIn_of _ (by decide +kernel)) ggX5_twins_X5_bitsOrNone
theorem dX5_twins_0 : decode cX5_twins 0 = .ok (.iload_n 1, 1) := by decide +kernel
theorem dX5_twins_1 : decode cX5_twins 1 = .ok (.iconst 0, 1) := by decide +kernel
theorem dX5_twins_2 : decode cX5_twins 2 = .ok (.iconst 2, 1) := by decide +kernel
theorem dX5_twins_3 : decode cX5_twins 3 = .ok (.invokestatic 81, 3) := by decide +kernel
theorem dX5_twins_6 : decode cX5_twins 6 = .ok (.ifCond .ne 10, 3) := by decide +kernel
theorem dX5_twins_9 : decode cX5_twins 9 = .ok (.aload_n 0, 1) := by decide +kernel
theorem dX5_twins_10 : decode cX5_twins 10 = .ok (.bipush (-2), 2) := by decide +kernel
theorem dX5_twins_12 : decode cX5_twins 12 = .ok (.invokevirtual 48, 3) := by decide +kernel
theorem dX5_twins_15 : decode cX5_twins 15 = .ok (.ireturn, 1) := by decide +kernel
theorem dX5_twins_16 : decode cX5_twins 16 = .ok (.aload_n 0, 1) := by decide +kernel
theorem dX5_twins_17 : decode cX5_twins 17 = .ok (.getfield 26, 3) := by decide +kernel
theorem dX5_twins_20 : decode cX5_twins 20 = .ok (.aload_n 0, 1) := by decide +kernel
theorem dX5_twins_21 : decode cX5_twins 21 = .ok (.getfield 10, 3) := by decide +kernel
theorem dX5_twins_24 : decode cX5_twins 24 = .ok (.iconst (-1), 1) := by decide +kernel
theorem dX5_twins_25 : decode cX5_twins 25 = .ok (.invokevirtual 102, 3) := by decide +kernel
theorem dX5_twins_28 : decode cX5_twins 28 = .ok (.iconst (-1), 1) := by decide +kernel
theorem dX5_twins_29 : decode cX5_twins 29 = .ok (.istore_n 2, 1) := by decide +kernel
theorem dX5_twins_30 : decode cX5_twins 30 = .ok (.iconst (-1), 1) := by decide +kernel
theorem dX5_twins_31 : decode cX5_twins 31 = .ok (.istore_n 3, 1) := by decide +kernel
theorem dX5_twins_32 : decode cX5_twins 32 = .ok (.ldc 129, 2) := by decide +kernel
theorem dX5_twins_34 : decode cX5_twins 34 = .ok (.fstore 4, 2) := by decide +kernel
theorem dX5_twins_36 : decode cX5_twins 36 = .ok (.iconst 0, 1) := by decide +kernel
theorem dX5_twins_37 : decode cX5_twins 37 = .ok (.istore 5, 2) := by decide +kernel
theorem dX5_twins_39 : decode cX5_twins 39 = .ok (.iload 5, 2) := by decide +kernel
theorem dX5_twins_41 : decode cX5_twins 41 = .ok (.aload_n 0, 1) := by decide +kernel
theorem dX5_twins_42 : decode cX5_twins 42 = .ok (.getfield 10, 3) := by decide +kernel
theorem dX5_twins_45 : decode cX5_twins 45 = .ok (.invokevirtual 52, 3) := by decide +kernel
theorem dX5_twins_48 : decode cX5_twins 48 = .ok (.if_icmp .ge 66, 3) := by decide +kernel
theorem dX5_twins_51 : decode cX5_twins 51 = .ok (.iload 5, 2) := by decide +kernel
theorem dX5_twins_53 : decode cX5_twins 53 = .ok (.iconst 1, 1) := by decide +kernel
theorem dX5_twins_54 : decode cX5_twins 54 = .ok (.iadd, 1) := by decide +kernel
theorem dX5_twins_55 : decode cX5_twins 55 = .ok (.istore 6, 2) := by decide +kernel
theorem dX5_twins_57 : decode cX5_twins 57 = .ok (.iload 6, 2) := by decide +kernel
theorem dX5_twins_59 : decode cX5_twins 59 = .ok (.aload_n 0, 1) := by decide +kernel
theorem dX5_twins_60 : decode cX5_twins 60 = .ok (.getfield 10, 3) := by decide +kernel
theorem dX5_twins_63 : decode cX5_twins 63 = .ok (.invokevirtual 52, 3) := by decide +kernel
theorem dX5_twins_66 : decode cX5_twins 66 = .ok (.if_icmp .ge 42, 3) := by decide +kernel
theorem dX5_twins_69 : decode cX5_twins 69 = .ok (.aload_n 0, 1) := by decide +kernel
theorem dX5_twins_70 : decode cX5_twins 70 = .ok (.getfield 26, 3) := by decide +kernel
theorem dX5_twins_73 : decode cX5_twins 73 = .ok (.iload 5, 2) := by decide +kernel
theorem dX5_twins_75 : decode cX5_twins 75 = .ok (.iload 6, 2) := by decide +kernel
theorem dX5_twins_77 : decode cX5_twins 77 = .ok (.invokevirtual 106, 3) := by decide +kernel
theorem dX5_twins_80 : decode cX5_twins 80 = .ok (.fstore 7, 2) := by decide +kernel
theorem dX5_twins_82 : decode cX5_twins 82 = .ok (.fload 7, 2) := by decide +kernel
theorem dX5_twins_84 : decode cX5_twins 84 = .ok (.fload 4, 2) := by decide +kernel
theorem dX5_twins_86 : decode cX5_twins 86 = .ok (.invokestatic 130, 3) := by decide +kernel
theorem dX5_twins_89 : decode cX5_twins 89 = .ok (.ifCond .eq 13, 3) := by decide +kernel
theorem dX5_twins_92 : decode cX5_twins 92 = .ok (.fload 7, 2) := by decide +kernel
theorem dX5_twins_94 : decode cX5_twins 94 = .ok (.fstore 4, 2) := by decide +kernel
theorem dX5_twins_96 : decode cX5_twins 96 = .ok (.iload 5, 2) := by decide +kernel
theorem dX5_twins_98 : decode cX5_twins 98 = .ok (.istore_n 2, 1) := by decide +kernel
theorem dX5_twins_99 : decode cX5_twins 99 = .ok (.iload 6, 2) := by decide +kernel
theorem dX5_twins_101 : decode cX5_twins 101 = .ok (.istore_n 3, 1) := by decide +kernel
theorem dX5_twins_102 : decode cX5_twins 102 = .ok (.iinc 6 1, 3) := by decide +kernel
theorem dX5_twins_105 : decode cX5_twins 105 = .ok (.goto (-48), 3) := by decide +kernel
theorem dX5_twins_108 : decode cX5_twins 108 = .ok (.iinc 5 1, 3) := by decide +kernel
theorem dX5_twins_111 : decode cX5_twins 111 = .ok (.goto (-72), 3) := by decide +kernel
theorem dX5_twins_114 : decode cX5_twins 114 = .ok (.iload_n 1, 1) := by decide +kernel
theorem dX5_twins_115 : decode cX5_twins 115 = .ok (.iconst 2, 1) := by decide +kernel
theorem dX5_twins_116 : decode cX5_twins 116 = .ok (.if_icmp .ne 9, 3) := by decide +kernel
theorem dX5_twins_119 : decode cX5_twins 119 = .ok (.fload 4, 2) := by decide +kernel
theorem dX5_twins_121 : decode cX5_twins 121 = .ok (.invokestatic 110, 3) := by decide +kernel
theorem dX5_twins_124 : decode cX5_twins 124 = .ok (.ireturn, 1) := by decide +kernel
theorem dX5_twins_125 : decode cX5_twins 125 = .ok (.iload_n 1, 1) := by decide +kernel
theorem dX5_twins_126 : decode cX5_twins 126 = .ok (.ifCond .ne 7, 3) := by decide +kernel
theorem dX5_twins_129 : decode cX5_twins 129 = .ok (.iload_n 2, 1) := by decide +kernel
theorem dX5_twins_130 : decode cX5_twins 130 = .ok (.goto 4, 3) := by decide +kernel
theorem dX5_twins_133 : decode cX5_twins 133 = .ok (.iload_n 3, 1) := by decide +kernel
theorem dX5_twins_134 : decode cX5_twins 134 = .ok (.ireturn, 1) := by decide +kernel
set_option maxRecDepth 20000 in
theorem ggX5_strangers_X0_has : GoodIn wsX5_strangers wsX0_has := goodIn_r _ [7, 8, 101, 102, 103, 104, 105] (by decide +kernel) (by decide +kernel)
set_option maxRecDepth 20000 in
theorem gX5_strangers_X0_has : GoodIn wsX5_strangers (wsV RX5 66 RX0 yX0_has wsX0_has) := goodIn_app (goodIn_of _ (by decide +kernel)) ggX5_strangers_X0_has
set_option maxRecDepth 20000 in
theorem ggX5_strangers_X5_refuseBad : GoodIn wsX5_strangers wsX5_refuseBad := goodIn_r _ [13, 14, 93, 94, 95, 96, 97, 98, 99, 100] (by decide +kernel) (by decide +kernel)
set_option maxRecDepth 20000 in
theorem gX5_strangers_X5_refuseBad : GoodIn wsX5_strangers (wsV RX5 48 RX5 yX5_refuseBad wsX5_refuseBad) := goodIn_app (goodIn_of _ (by decide +kernel)) ggX5_strangers_X5_refuseBad
set_option maxRecDepth 20000 in
theorem ggX5_strangers_X2_learn : GoodIn wsX5_strangers wsX2_learn := goodIn_r _ [19, 20, 21, 22, 23, 24, 25, 26, 27, 28, 29, 30, 31, 6, 32, 8, 33, 34, 35, 18, 36, 37, 38, 39, 40, 41, 42, 43, 44, 4, 5, 7, 45, 12, 46, 47, 48, 49, 50, 51, 52, 53, 54, 55, 56, 57, 58, 59, 60, 61, 62, 63, 64, 65, 66, 67, 68, 69, 70, 71, 72, 73, 74, 75, 76, 77, 78, 79, 80, 81, 82, 83, 84, 85, 86, 87, 88, 89, 90, 106, 107, 108, 109, 110, 111, 112, 113, 114, 101, 102, 103, 104, 105] (by decide +kernel) (by decide +kernel)
set_option maxRecDepth 20000 in
theorem gX5_strangers_X2_learn : GoodIn wsX5_strangers (wsV RX5 102 RX2 yX2_learn wsX2_learn) := goodIn_app (goodIn_of _ (by decide +kernel)) ggX5_strangers_X2_learn
set_option maxRecDepth 20000 in
theorem ggX5_strangers_X0_days : GoodIn wsX5_strangers wsX0_days := goodIn_r _ [32, 8, 101, 102, 103, 104, 105] (by decide +kernel) (by decide +kernel)
set_option maxRecDepth 20000 in
theorem gX5_strangers_X0_days : GoodIn wsX5_strangers (wsV RX5 52 RX0 yX0_days wsX0_days) := goodIn_app (goodIn_of _ (by decide +kernel)) ggX5_strangers_X0_days
set_option maxRecDepth 20000 in
theorem ggX5_strangers_X2_between : GoodIn wsX5_strangers wsX2_between := goodIn_r _ [86, 28, 64, 87, 88, 89, 18, 90, 25, 106, 107, 108, 109, 110, 111, 112, 113, 114] (by decide +kernel) (by decide +kernel)
set_option maxRecDepth 20000 in
theorem gX5_strangers_X2_between : GoodIn wsX5_strangers (wsV RX5 106 RX2 yX2_between wsX2_between) := goodIn_app (goodIn_of _ (by decide +kernel)) ggX5_strangers_X2_between
theorem dX5_strangers_0 : decode cX5_strangers 0 = .ok (.aload_n 0, 1) := by decide +kernel
theorem dX5_strangers_1 : decode cX5_strangers 1 = .ok (.getfield 10, 3) := by decide +kernel
theorem dX5_strangers_4 : decode cX5_strangers 4 = .ok (.iload_n 1, 1) := by decide +kernel
theorem dX5_strangers_5 : decode cX5_strangers 5 = .ok (.invokevirtual 66, 3) := by decide +kernel
theorem dX5_strangers_8 : decode cX5_strangers 8 = .ok (.ifCond .ne 10, 3) := by decide +kernel
theorem dX5_strangers_11 : decode cX5_strangers 11 = .ok (.aload_n 0, 1) := by decide +kernel
theorem dX5_strangers_12 : decode cX5_strangers 12 = .ok (.bipush (-2), 2) := by decide +kernel
theorem dX5_strangers_14 : decode cX5_strangers 14 = .ok (.invokevirtual 48, 3) := by decide +kernel
theorem dX5_strangers_17 : decode cX5_strangers 17 = .ok (.ireturn, 1) := by decide +kernel
theorem dX5_strangers_18 : decode cX5_strangers 18 = .ok (.aload_n 0, 1) := by decide +kernel
theorem dX5_strangers_19 : decode cX5_strangers 19 = .ok (.getfield 26, 3) := by decide +kernel
theorem dX5_strangers_22 : decode cX5_strangers 22 = .ok (.aload_n 0, 1) := by decide +kernel
theorem dX5_strangers_23 : decode cX5_strangers 23 = .ok (.getfield 10, 3) := by decide +kernel
theorem dX5_strangers_26 : decode cX5_strangers 26 = .ok (.iconst (-1), 1) := by decide +kernel
theorem dX5_strangers_27 : decode cX5_strangers 27 = .ok (.invokevirtual 102, 3) := by decide +kernel
theorem dX5_strangers_30 : decode cX5_strangers 30 = .ok (.iconst 0, 1) := by decide +kernel
theorem dX5_strangers_31 : decode cX5_strangers 31 = .ok (.istore_n 2, 1) := by decide +kernel
theorem dX5_strangers_32 : decode cX5_strangers 32 = .ok (.iconst 0, 1) := by decide +kernel
theorem dX5_strangers_33 : decode cX5_strangers 33 = .ok (.istore_n 3, 1) := by decide +kernel
theorem dX5_strangers_34 : decode cX5_strangers 34 = .ok (.iload_n 3, 1) := by decide +kernel
theorem dX5_strangers_35 : decode cX5_strangers 35 = .ok (.aload_n 0, 1) := by decide +kernel
theorem dX5_strangers_36 : decode cX5_strangers 36 = .ok (.getfield 10, 3) := by decide +kernel
theorem dX5_strangers_39 : decode cX5_strangers 39 = .ok (.invokevirtual 52, 3) := by decide +kernel
theorem dX5_strangers_42 : decode cX5_strangers 42 = .ok (.if_icmp .ge 31, 3) := by decide +kernel
theorem dX5_strangers_45 : decode cX5_strangers 45 = .ok (.iload_n 3, 1) := by decide +kernel
theorem dX5_strangers_46 : decode cX5_strangers 46 = .ok (.iload_n 1, 1) := by decide +kernel
theorem dX5_strangers_47 : decode cX5_strangers 47 = .ok (.if_icmp .eq 20, 3) := by decide +kernel
theorem dX5_strangers_50 : decode cX5_strangers 50 = .ok (.aload_n 0, 1) := by decide +kernel
theorem dX5_strangers_51 : decode cX5_strangers 51 = .ok (.getfield 26, 3) := by decide +kernel
theorem dX5_strangers_54 : decode cX5_strangers 54 = .ok (.iload_n 1, 1) := by decide +kernel
theorem dX5_strangers_55 : decode cX5_strangers 55 = .ok (.iload_n 3, 1) := by decide +kernel
theorem dX5_strangers_56 : decode cX5_strangers 56 = .ok (.invokevirtual 106, 3) := by decide +kernel
theorem dX5_strangers_59 : decode cX5_strangers 59 = .ok (.fconst 0, 1) := by decide +kernel
theorem dX5_strangers_60 : decode cX5_strangers 60 = .ok (.fcmp .g, 1) := by decide +kernel
theorem dX5_strangers_61 : decode cX5_strangers 61 = .ok (.ifCond .ge 6, 3) := by decide +kernel
theorem dX5_strangers_64 : decode cX5_strangers 64 = .ok (.iinc 2 1, 3) := by decide +kernel
theorem dX5_strangers_67 : decode cX5_strangers 67 = .ok (.iinc 3 1, 3) := by decide +kernel
theorem dX5_strangers_70 : decode cX5_strangers 70 = .ok (.goto (-36), 3) := by decide +kernel
theorem dX5_strangers_73 : decode cX5_strangers 73 = .ok (.iload_n 2, 1) := by decide +kernel
theorem dX5_strangers_74 : decode cX5_strangers 74 = .ok (.ireturn, 1) := by decide +kernel
set_option maxRecDepth 20000 in
theorem ggX5_follows_X0_has : GoodIn wsX5_follows wsX0_has := goodIn_r _ [7, 8, 152, 153, 154, 155, 156] (by decide +kernel) (by decide +kernel)
set_option maxRecDepth 20000 in
theorem gX5_follows_X0_has : GoodIn wsX5_follows (wsV RX5 66 RX0 yX0_has wsX0_has) := goodIn_app (goodIn_of _ (by decide +kernel)) ggX5_follows_X0_has
set_option maxRecDepth 20000 in
theorem ggX5_follows_X5_isMember : GoodIn wsX5_follows wsX5_isMember := goodIn_r _ [12, 13, 14, 11, 15] (by decide +kernel) (by decide +kernel)
set_option maxRecDepth 20000 in
theorem gX5_follows_X5_isMember : GoodIn wsX5_follows (va_wsS RX5 69 yX5_isMember wsX5_isMember) := goodIn_app (goodIn_of _ (by decide +kernel)) ggX5_follows_X5_isMember
set_option maxRecDepth 20000 in
theorem ggX5_follows_X5_isWithin : GoodIn wsX5_follows wsX5_isWithin := goodIn_r _ [15] (by decide +kernel) (by decide +kernel)
set_option maxRecDepth 20000 in
theorem gX5_follows_X5_isWithin : GoodIn wsX5_follows (va_wsS RX5 81 yX5_isWithin wsX5_isWithin) := goodIn_app (goodIn_of _ (by decide +kernel)) ggX5_follows_X5_isWithin
set_option maxRecDepth 20000 in
theorem ggX5_follows_X5_refuseBad : GoodIn wsX5_follows wsX5_refuseBad := goodIn_r _ [19, 20, 144, 145, 146, 147, 148, 149, 150, 151] (by decide +kernel) (by decide +kernel)
set_option maxRecDepth 20000 in
theorem gX5_follows_X5_refuseBad : GoodIn wsX5_follows (wsV RX5 48 RX5 yX5_refuseBad wsX5_refuseBad) := goodIn_app (goodIn_of _ (by decide +kernel)) ggX5_follows_X5_refuseBad
set_option maxRecDepth 20000 in
theorem ggX5_follows_X5_gatherFollowers : GoodIn wsX5_follows wsX5_gatherFollowers := goodIn_r _ [24, 25, 1, 2, 26, 27, 28, 29, 30, 31, 32, 33, 34, 35, 36, 37, 38, 39, 40, 41, 42, 6, 43, 8, 44, 45, 46, 47, 48, 49, 50, 51, 52, 53, 54, 55, 4, 5, 7, 10, 11, 12, 13, 14, 15, 56, 57, 58, 59, 60, 61, 62, 63, 64, 65, 66, 67, 68, 69, 70, 71, 72, 73, 74, 75, 76, 77, 78, 79, 80, 81, 82, 83, 84, 85, 86, 87, 88, 89, 90, 91, 92, 93, 94, 95, 96, 97, 98, 99, 100, 101, 102, 103, 104, 105, 106, 107, 108, 109, 110, 111, 112, 113, 114, 115, 116, 117, 118, 119, 120, 121, 122, 123, 144, 145, 146, 147, 148, 149, 150, 151, 157, 158, 159, 160, 161, 162, 163, 164, 165, 152, 153, 154, 155, 156, 166, 167, 168, 169] (by decide +kernel) (by decide +kernel)
set_option maxRecDepth 20000 in
theorem gX5_follows_X5_gatherFollowers : GoodIn wsX5_follows (wsV RX5 134 RX5 yX5_gatherFollowers wsX5_gatherFollowers) := goodIn_app (goodIn_of _ (by decide +kernel)) ggX5_follows_X5_gatherFollowers
set_option maxRecDepth 20000 in
theorem ggX5_follows_X1_size : GoodIn wsX5_follows wsX1_size := goodIn_r _ [127, 106, 166, 167, 168, 169] (by decide +kernel) (by decide +kernel)
set_option maxRecDepth 20000 in
theorem gX5_follows_X1_size : GoodIn wsX5_follows (wsV RX5 137 RX1 yX1_size wsX1_size) := goodIn_app (goodIn_of _ (by decide +kernel)) ggX5_follows_X1_size
set_option maxRecDepth 20000 in
theorem ggX5_follows_X1_least : GoodIn wsX5_follows wsX1_least := goodIn_r _ [131, 123, 132, 133, 134, 104, 135, 106, 136, 137, 34, 138, 166, 167, 168, 169] (by decide +kernel) (by decide +kernel)
set_option maxRecDepth 20000 in
theorem gX5_follows_X1_least : GoodIn wsX5_follows (wsV RX5 140 RX1 yX1_least wsX1_least) := goodIn_app (goodIn_of _ (by decide +kernel)) ggX5_follows_X1_least
set_option maxRecDepth 20000 in
theorem ggX5_follows_X1_greatest : GoodIn wsX5_follows wsX1_greatest := goodIn_r _ [142, 123, 106, 132, 133, 134, 104, 135, 136, 137, 34, 138, 166, 167, 168, 169] (by decide +kernel) (by decide +kernel)
set_option maxRecDepth 20000 in
theorem gX5_follows_X1_greatest : GoodIn wsX5_follows (wsV RX5 143 RX1 yX1_greatest wsX1_greatest) := goodIn_app (goodIn_of _ (by decide +kernel)) ggX5_follows_X1_greatest
set_option maxRecDepth 20000 in
theorem ggX5_follows_X1_spanSize : GoodIn wsX5_follows wsX1_spanSize := goodIn_r _ [135, 106, 136, 137, 34, 138, 166, 167, 168, 169] (by decide +kernel) (by decide +kernel)
set_option maxRecDepth 20000 in
theorem gX5_follows_X1_spanSize : GoodIn wsX5_follows (wsV RX5 146 RX1 yX1_spanSize wsX1_spanSize) := goodIn_app (goodIn_of _ (by decide +kernel)) ggX5_follows_X1_spanSize
theorem dX5_follows_0 : decode cX5_follows 0 = .ok (.aload_n 0, 1) := by decide +kernel
theorem dX5_follows_1 : decode cX5_follows 1 = .ok (.getfield 10, 3) := by decide +kernel
theorem dX5_follows_4 : decode cX5_follows 4 = .ok (.iload_n 1, 1) := by decide +kernel
theorem dX5_follows_5 : decode cX5_follows 5 = .ok (.invokevirtual 66, 3) := by decide +kernel
theorem dX5_follows_8 : decode cX5_follows 8 = .ok (.ifCond .eq 29, 3) := by decide +kernel
theorem dX5_follows_11 : decode cX5_follows 11 = .ok (.iload_n 2, 1) := by decide +kernel
theorem dX5_follows_12 : decode cX5_follows 12 = .ok (.invokestatic 69, 3) := by decide +kernel
theorem dX5_follows_15 : decode cX5_follows 15 = .ok (.ifCond .eq 22, 3) := by decide +kernel
theorem dX5_follows_18 : decode cX5_follows 18 = .ok (.iload_n 3, 1) := by decide +kernel
theorem dX5_follows_19 : decode cX5_follows 19 = .ok (.iconst 0, 1) := by decide +kernel
theorem dX5_follows_20 : decode cX5_follows 20 = .ok (.iconst 5, 1) := by decide +kernel
theorem dX5_follows_21 : decode cX5_follows 21 = .ok (.invokestatic 81, 3) := by decide +kernel
theorem dX5_follows_24 : decode cX5_follows 24 = .ok (.ifCond .eq 13, 3) := by decide +kernel
theorem dX5_follows_27 : decode cX5_follows 27 = .ok (.iload 4, 2) := by decide +kernel
theorem dX5_follows_29 : decode cX5_follows 29 = .ok (.iconst 0, 1) := by decide +kernel
theorem dX5_follows_30 : decode cX5_follows 30 = .ok (.iconst 3, 1) := by decide +kernel
theorem dX5_follows_31 : decode cX5_follows 31 = .ok (.invokestatic 81, 3) := by decide +kernel
theorem dX5_follows_34 : decode cX5_follows 34 = .ok (.ifCond .ne 11, 3) := by decide +kernel
theorem dX5_follows_37 : decode cX5_follows 37 = .ok (.aload_n 0, 1) := by decide +kernel
theorem dX5_follows_38 : decode cX5_follows 38 = .ok (.sipush (-20000), 3) := by decide +kernel
theorem dX5_follows_41 : decode cX5_follows 41 = .ok (.invokevirtual 48, 3) := by decide +kernel
theorem dX5_follows_44 : decode cX5_follows 44 = .ok (.ireturn, 1) := by decide +kernel
theorem dX5_follows_45 : decode cX5_follows 45 = .ok (.aload_n 0, 1) := by decide +kernel
theorem dX5_follows_46 : decode cX5_follows 46 = .ok (.iload_n 1, 1) := by decide +kernel
theorem dX5_follows_47 : decode cX5_follows 47 = .ok (.iload_n 2, 1) := by decide +kernel
theorem dX5_follows_48 : decode cX5_follows 48 = .ok (.invokevirtual 134, 3) := by decide +kernel
theorem dX5_follows_51 : decode cX5_follows 51 = .ok (.iload 4, 2) := by decide +kernel
theorem dX5_follows_53 : decode cX5_follows 53 = .ok (.tableswitch 53 0 2 #[27, 35, 44], 27) := by decide +kernel
theorem dX5_follows_80 : decode cX5_follows 80 = .ok (.aload_n 0, 1) := by decide +kernel
theorem dX5_follows_81 : decode cX5_follows 81 = .ok (.getfield 33, 3) := by decide +kernel
theorem dX5_follows_84 : decode cX5_follows 84 = .ok (.invokevirtual 137, 3) := by decide +kernel
theorem dX5_follows_87 : decode cX5_follows 87 = .ok (.ireturn, 1) := by decide +kernel
theorem dX5_follows_88 : decode cX5_follows 88 = .ok (.aload_n 0, 1) := by decide +kernel
theorem dX5_follows_89 : decode cX5_follows 89 = .ok (.getfield 33, 3) := by decide +kernel
theorem dX5_follows_92 : decode cX5_follows 92 = .ok (.iload_n 3, 1) := by decide +kernel
theorem dX5_follows_93 : decode cX5_follows 93 = .ok (.invokevirtual 140, 3) := by decide +kernel
theorem dX5_follows_96 : decode cX5_follows 96 = .ok (.ireturn, 1) := by decide +kernel
theorem dX5_follows_97 : decode cX5_follows 97 = .ok (.aload_n 0, 1) := by decide +kernel
theorem dX5_follows_98 : decode cX5_follows 98 = .ok (.getfield 33, 3) := by decide +kernel
theorem dX5_follows_101 : decode cX5_follows 101 = .ok (.iload_n 3, 1) := by decide +kernel
theorem dX5_follows_102 : decode cX5_follows 102 = .ok (.invokevirtual 143, 3) := by decide +kernel
theorem dX5_follows_105 : decode cX5_follows 105 = .ok (.ireturn, 1) := by decide +kernel
theorem dX5_follows_106 : decode cX5_follows 106 = .ok (.aload_n 0, 1) := by decide +kernel
theorem dX5_follows_107 : decode cX5_follows 107 = .ok (.getfield 33, 3) := by decide +kernel
theorem dX5_follows_110 : decode cX5_follows 110 = .ok (.iload_n 3, 1) := by decide +kernel
theorem dX5_follows_111 : decode cX5_follows 111 = .ok (.invokevirtual 146, 3) := by decide +kernel
theorem dX5_follows_114 : decode cX5_follows 114 = .ok (.ireturn, 1) := by decide +kernel
set_option maxRecDepth 20000 in
theorem ggX5_mean_X0_has : GoodIn wsX5_mean wsX0_has := goodIn_r _ [7, 8, 145, 146, 147, 148, 149] (by decide +kernel) (by decide +kernel)
set_option maxRecDepth 20000 in
theorem gX5_mean_X0_has : GoodIn wsX5_mean (wsV RX5 66 RX0 yX0_has wsX0_has) := goodIn_app (goodIn_of _ (by decide +kernel)) ggX5_mean_X0_has
set_option maxRecDepth 20000 in
theorem ggX5_mean_X5_isMember : GoodIn wsX5_mean wsX5_isMember := goodIn_r _ [12, 13, 14, 11, 15] (by decide +kernel) (by decide +kernel)
set_option maxRecDepth 20000 in
theorem gX5_mean_X5_isMember : GoodIn wsX5_mean (va_wsS RX5 69 yX5_isMember wsX5_isMember) := goodIn_app (goodIn_of _ (by decide +kernel)) ggX5_mean_X5_isMember
set_option maxRecDepth 20000 in
theorem ggX5_mean_X5_refuseBad : GoodIn wsX5_mean wsX5_refuseBad := goodIn_r _ [19, 20, 137, 138, 139, 140, 141, 142, 143, 144] (by decide +kernel) (by decide +kernel)
set_option maxRecDepth 20000 in
theorem gX5_mean_X5_refuseBad : GoodIn wsX5_mean (wsV RX5 48 RX5 yX5_refuseBad wsX5_refuseBad) := goodIn_app (goodIn_of _ (by decide +kernel)) ggX5_mean_X5_refuseBad
set_option maxRecDepth 20000 in
theorem ggX5_mean_X5_gatherFollowers : GoodIn wsX5_mean wsX5_gatherFollowers := goodIn_r _ [24, 25, 1, 2, 26, 27, 28, 29, 30, 31, 32, 33, 34, 35, 36, 37, 38, 39, 40, 41, 42, 6, 43, 8, 44, 45, 46, 47, 48, 49, 50, 51, 52, 53, 54, 55, 4, 5, 7, 10, 11, 12, 13, 14, 15, 56, 57, 58, 59, 60, 61, 62, 63, 64, 65, 66, 67, 68, 69, 70, 71, 72, 73, 74, 75, 76, 77, 78, 79, 80, 81, 82, 83, 84, 85, 86, 87, 88, 89, 90, 91, 92, 93, 94, 95, 96, 97, 98, 99, 100, 101, 102, 103, 104, 105, 106, 107, 108, 109, 110, 111, 112, 113, 114, 115, 116, 117, 118, 119, 120, 121, 122, 123, 137, 138, 139, 140, 141, 142, 143, 144, 150, 151, 152, 153, 154, 155, 156, 157, 158, 145, 146, 147, 148, 149, 159, 160, 161, 162] (by decide +kernel) (by decide +kernel)
set_option maxRecDepth 20000 in
theorem gX5_mean_X5_gatherFollowers : GoodIn wsX5_mean (wsV RX5 134 RX5 yX5_gatherFollowers wsX5_gatherFollowers) := goodIn_app (goodIn_of _ (by decide +kernel)) ggX5_mean_X5_gatherFollowers
set_option maxRecDepth 20000 in
theorem ggX5_mean_X1_size : GoodIn wsX5_mean wsX1_size := goodIn_r _ [127, 106, 159, 160, 161, 162] (by decide +kernel) (by decide +kernel)
set_option maxRecDepth 20000 in
theorem gX5_mean_X1_size : GoodIn wsX5_mean (wsV RX5 137 RX1 yX1_size wsX1_size) := goodIn_app (goodIn_of _ (by decide +kernel)) ggX5_mean_X1_size
set_option maxRecDepth 20000 in
theorem ggX5_mean_X1_meanValue : GoodIn wsX5_mean wsX1_meanValue := goodIn_r _ [131, 106, 121, 122, 56, 11, 57, 58, 159, 160, 161, 162] (by decide +kernel) (by decide +kernel)
set_option maxRecDepth 20000 in
theorem gX5_mean_X1_meanValue : GoodIn wsX5_mean (wsV RX5 149 RX1 yX1_meanValue wsX1_meanValue) := goodIn_app (goodIn_of _ (by decide +kernel)) ggX5_mean_X1_meanValue
set_option maxRecDepth 20000 in
theorem ggX5_mean_X5_floatBits : GoodIn wsX5_mean wsX5_floatBits := goodIn_r _ [134, 135, 136] (by decide +kernel) (by decide +kernel)
set_option maxRecDepth 20000 in
theorem gX5_mean_X5_floatBits : GoodIn wsX5_mean (va_wsS RX5 153 yX5_floatBits wsX5_floatBits) := goodIn_app (goodIn_of _ (by decide +kernel)) ggX5_mean_X5_floatBits
theorem dX5_mean_0 : decode cX5_mean 0 = .ok (.aload_n 0, 1) := by decide +kernel
theorem dX5_mean_1 : decode cX5_mean 1 = .ok (.getfield 10, 3) := by decide +kernel
theorem dX5_mean_4 : decode cX5_mean 4 = .ok (.iload_n 1, 1) := by decide +kernel
theorem dX5_mean_5 : decode cX5_mean 5 = .ok (.invokevirtual 66, 3) := by decide +kernel
theorem dX5_mean_8 : decode cX5_mean 8 = .ok (.ifCond .eq 10, 3) := by decide +kernel
theorem dX5_mean_11 : decode cX5_mean 11 = .ok (.iload_n 2, 1) := by decide +kernel
theorem dX5_mean_12 : decode cX5_mean 12 = .ok (.invokestatic 69, 3) := by decide +kernel
theorem dX5_mean_15 : decode cX5_mean 15 = .ok (.ifCond .ne 10, 3) := by decide +kernel
theorem dX5_mean_18 : decode cX5_mean 18 = .ok (.aload_n 0, 1) := by decide +kernel
theorem dX5_mean_19 : decode cX5_mean 19 = .ok (.bipush (-2), 2) := by decide +kernel
theorem dX5_mean_21 : decode cX5_mean 21 = .ok (.invokevirtual 48, 3) := by decide +kernel
theorem dX5_mean_24 : decode cX5_mean 24 = .ok (.ireturn, 1) := by decide +kernel
theorem dX5_mean_25 : decode cX5_mean 25 = .ok (.aload_n 0, 1) := by decide +kernel
theorem dX5_mean_26 : decode cX5_mean 26 = .ok (.iload_n 1, 1) := by decide +kernel
theorem dX5_mean_27 : decode cX5_mean 27 = .ok (.iload_n 2, 1) := by decide +kernel
theorem dX5_mean_28 : decode cX5_mean 28 = .ok (.invokevirtual 134, 3) := by decide +kernel
theorem dX5_mean_31 : decode cX5_mean 31 = .ok (.aload_n 0, 1) := by decide +kernel
theorem dX5_mean_32 : decode cX5_mean 32 = .ok (.getfield 33, 3) := by decide +kernel
theorem dX5_mean_35 : decode cX5_mean 35 = .ok (.invokevirtual 137, 3) := by decide +kernel
theorem dX5_mean_38 : decode cX5_mean 38 = .ok (.ifCond .ne 7, 3) := by decide +kernel
theorem dX5_mean_41 : decode cX5_mean 41 = .ok (.iconst (-1), 1) := by decide +kernel
theorem dX5_mean_42 : decode cX5_mean 42 = .ok (.goto 13, 3) := by decide +kernel
theorem dX5_mean_45 : decode cX5_mean 45 = .ok (.aload_n 0, 1) := by decide +kernel
theorem dX5_mean_46 : decode cX5_mean 46 = .ok (.getfield 33, 3) := by decide +kernel
theorem dX5_mean_49 : decode cX5_mean 49 = .ok (.invokevirtual 149, 3) := by decide +kernel
theorem dX5_mean_52 : decode cX5_mean 52 = .ok (.invokestatic 153, 3) := by decide +kernel
theorem dX5_mean_55 : decode cX5_mean 55 = .ok (.ireturn, 1) := by decide +kernel
set_option maxRecDepth 20000 in
theorem ggX5_spread_X0_has : GoodIn wsX5_spread wsX0_has := goodIn_r _ [8, 9, 147, 148, 149, 150, 151] (by decide +kernel) (by decide +kernel)
set_option maxRecDepth 20000 in
theorem gX5_spread_X0_has : GoodIn wsX5_spread (wsV RX5 66 RX0 yX0_has wsX0_has) := goodIn_app (goodIn_of _ (by decide +kernel)) ggX5_spread_X0_has
set_option maxRecDepth 20000 in
theorem ggX5_spread_X5_isMember : GoodIn wsX5_spread wsX5_isMember := goodIn_r _ [13, 14, 15, 12, 16] (by decide +kernel) (by decide +kernel)
set_option maxRecDepth 20000 in
theorem gX5_spread_X5_isMember : GoodIn wsX5_spread (va_wsS RX5 69 yX5_isMember wsX5_isMember) := goodIn_app (goodIn_of _ (by decide +kernel)) ggX5_spread_X5_isMember
set_option maxRecDepth 20000 in
theorem ggX5_spread_X5_refuseBad : GoodIn wsX5_spread wsX5_refuseBad := goodIn_r _ [20, 21, 139, 140, 141, 142, 143, 144, 145, 146] (by decide +kernel) (by decide +kernel)
set_option maxRecDepth 20000 in
theorem gX5_spread_X5_refuseBad : GoodIn wsX5_spread (wsV RX5 48 RX5 yX5_refuseBad wsX5_refuseBad) := goodIn_app (goodIn_of _ (by decide +kernel)) ggX5_spread_X5_refuseBad
set_option maxRecDepth 20000 in
theorem ggX5_spread_X5_gatherFollowers : GoodIn wsX5_spread wsX5_gatherFollowers := goodIn_r _ [25, 26, 1, 2, 27, 28, 29, 30, 31, 32, 33, 34, 35, 36, 37, 38, 39, 40, 41, 42, 43, 7, 44, 9, 45, 46, 47, 48, 49, 50, 51, 52, 53, 54, 55, 56, 5, 6, 8, 11, 12, 13, 14, 15, 16, 57, 58, 59, 60, 61, 62, 63, 64, 65, 66, 67, 68, 69, 70, 71, 72, 73, 74, 75, 76, 77, 78, 79, 80, 81, 82, 83, 84, 85, 86, 87, 88, 89, 90, 91, 92, 93, 94, 95, 96, 97, 98, 99, 100, 101, 102, 103, 104, 105, 106, 107, 108, 109, 110, 111, 112, 113, 114, 115, 116, 117, 118, 119, 120, 121, 122, 123, 124, 139, 140, 141, 142, 143, 144, 145, 146, 152, 153, 154, 155, 156, 157, 158, 159, 160, 147, 148, 149, 150, 151, 161, 162, 163, 164] (by decide +kernel) (by decide +kernel)
set_option maxRecDepth 20000 in
theorem gX5_spread_X5_gatherFollowers : GoodIn wsX5_spread (wsV RX5 134 RX5 yX5_gatherFollowers wsX5_gatherFollowers) := goodIn_app (goodIn_of _ (by decide +kernel)) ggX5_spread_X5_gatherFollowers
set_option maxRecDepth 20000 in
theorem ggX5_spread_X1_size : GoodIn wsX5_spread wsX1_size := goodIn_r _ [128, 107, 161, 162, 163, 164] (by decide +kernel) (by decide +kernel)
set_option maxRecDepth 20000 in
theorem gX5_spread_X1_size : GoodIn wsX5_spread (wsV RX5 137 RX1 yX1_size wsX1_size) := goodIn_app (goodIn_of _ (by decide +kernel)) ggX5_spread_X1_size
set_option maxRecDepth 20000 in
theorem ggX5_spread_X1_spreadOfValues : GoodIn wsX5_spread wsX1_spreadOfValues := goodIn_r _ [132, 107, 122, 57, 12, 58, 59, 161, 162, 163, 164] (by decide +kernel) (by decide +kernel)
set_option maxRecDepth 20000 in
theorem gX5_spread_X1_spreadOfValues : GoodIn wsX5_spread (wsV RX5 158 RX1 yX1_spreadOfValues wsX1_spreadOfValues) := goodIn_app (goodIn_of _ (by decide +kernel)) ggX5_spread_X1_spreadOfValues
set_option maxRecDepth 20000 in
theorem ggX5_spread_X5_doubleBits : GoodIn wsX5_spread wsX5_doubleBits := goodIn_r _ [135, 136, 137, 138] (by decide +kernel) (by decide +kernel)
set_option maxRecDepth 20000 in
theorem gX5_spread_X5_doubleBits : GoodIn wsX5_spread (va_wsS RX5 162 yX5_doubleBits wsX5_doubleBits) := goodIn_app (goodIn_of _ (by decide +kernel)) ggX5_spread_X5_doubleBits
theorem dX5_spread_0 : decode cX5_spread 0 = .ok (.aload_n 0, 1) := by decide +kernel
theorem dX5_spread_1 : decode cX5_spread 1 = .ok (.getfield 10, 3) := by decide +kernel
theorem dX5_spread_4 : decode cX5_spread 4 = .ok (.iload_n 1, 1) := by decide +kernel
theorem dX5_spread_5 : decode cX5_spread 5 = .ok (.invokevirtual 66, 3) := by decide +kernel
theorem dX5_spread_8 : decode cX5_spread 8 = .ok (.ifCond .eq 10, 3) := by decide +kernel
theorem dX5_spread_11 : decode cX5_spread 11 = .ok (.iload_n 2, 1) := by decide +kernel
theorem dX5_spread_12 : decode cX5_spread 12 = .ok (.invokestatic 69, 3) := by decide +kernel
theorem dX5_spread_15 : decode cX5_spread 15 = .ok (.ifCond .ne 11, 3) := by decide +kernel
theorem dX5_spread_18 : decode cX5_spread 18 = .ok (.aload_n 0, 1) := by decide +kernel
theorem dX5_spread_19 : decode cX5_spread 19 = .ok (.bipush (-2), 2) := by decide +kernel
theorem dX5_spread_21 : decode cX5_spread 21 = .ok (.invokevirtual 48, 3) := by decide +kernel
theorem dX5_spread_24 : decode cX5_spread 24 = .ok (.i2l, 1) := by decide +kernel
theorem dX5_spread_25 : decode cX5_spread 25 = .ok (.lreturn, 1) := by decide +kernel
theorem dX5_spread_26 : decode cX5_spread 26 = .ok (.aload_n 0, 1) := by decide +kernel
theorem dX5_spread_27 : decode cX5_spread 27 = .ok (.iload_n 1, 1) := by decide +kernel
theorem dX5_spread_28 : decode cX5_spread 28 = .ok (.iload_n 2, 1) := by decide +kernel
theorem dX5_spread_29 : decode cX5_spread 29 = .ok (.invokevirtual 134, 3) := by decide +kernel
theorem dX5_spread_32 : decode cX5_spread 32 = .ok (.aload_n 0, 1) := by decide +kernel
theorem dX5_spread_33 : decode cX5_spread 33 = .ok (.getfield 33, 3) := by decide +kernel
theorem dX5_spread_36 : decode cX5_spread 36 = .ok (.invokevirtual 137, 3) := by decide +kernel
theorem dX5_spread_39 : decode cX5_spread 39 = .ok (.ifCond .ne 9, 3) := by decide +kernel
theorem dX5_spread_42 : decode cX5_spread 42 = .ok (.ldc2_w 156, 3) := by decide +kernel
theorem dX5_spread_45 : decode cX5_spread 45 = .ok (.goto 13, 3) := by decide +kernel
theorem dX5_spread_48 : decode cX5_spread 48 = .ok (.aload_n 0, 1) := by decide +kernel
theorem dX5_spread_49 : decode cX5_spread 49 = .ok (.getfield 33, 3) := by decide +kernel
theorem dX5_spread_52 : decode cX5_spread 52 = .ok (.invokevirtual 158, 3) := by decide +kernel
theorem dX5_spread_55 : decode cX5_spread 55 = .ok (.invokestatic 162, 3) := by decide +kernel
theorem dX5_spread_58 : decode cX5_spread 58 = .ok (.lreturn, 1) := by decide +kernel
set_option maxRecDepth 20000 in
theorem ggX5_holds_X5_isMember : GoodIn wsX5_holds wsX5_isMember := goodIn_r _ [6, 7, 8, 5, 9] (by decide +kernel) (by decide +kernel)
set_option maxRecDepth 20000 in
theorem gX5_holds_X5_isMember : GoodIn wsX5_holds (va_wsS RX5 69 yX5_isMember wsX5_isMember) := goodIn_app (goodIn_of _ (by decide +kernel)) ggX5_holds_X5_isMember
set_option maxRecDepth 20000 in
theorem ggX5_holds_X5_isWithin : GoodIn wsX5_holds wsX5_isWithin := goodIn_r _ [9] (by decide +kernel) (by decide +kernel)
set_option maxRecDepth 20000 in
theorem gX5_holds_X5_isWithin : GoodIn wsX5_holds (va_wsS RX5 81 yX5_isWithin wsX5_isWithin) := goodIn_app (goodIn_of _ (by decide +kernel)) ggX5_holds_X5_isWithin
set_option maxRecDepth 20000 in
theorem ggX5_holds_X5_refuseBad : GoodIn wsX5_holds wsX5_refuseBad := goodIn_r _ [13, 14, 141, 142, 143, 144, 145, 146, 147, 148] (by decide +kernel) (by decide +kernel)
set_option maxRecDepth 20000 in
theorem gX5_holds_X5_refuseBad : GoodIn wsX5_holds (wsV RX5 48 RX5 yX5_refuseBad wsX5_refuseBad) := goodIn_app (goodIn_of _ (by decide +kernel)) ggX5_holds_X5_refuseBad
set_option maxRecDepth 20000 in
theorem ggX5_holds_X0_days : GoodIn wsX5_holds wsX0_days := goodIn_r _ [19, 20, 149, 150, 151, 152, 153] (by decide +kernel) (by decide +kernel)
set_option maxRecDepth 20000 in
theorem gX5_holds_X0_days : GoodIn wsX5_holds (wsV RX5 52 RX0 yX0_days wsX0_days) := goodIn_app (goodIn_of _ (by decide +kernel)) ggX5_holds_X0_days
set_option maxRecDepth 20000 in
theorem ggX5_holds_X0_member : GoodIn wsX5_holds wsX0_member := goodIn_r _ [24, 25, 26, 27, 28, 18, 29, 20, 4, 5, 6, 7, 8, 9, 149, 150, 151, 152, 153] (by decide +kernel) (by decide +kernel)
set_option maxRecDepth 20000 in
theorem gX5_holds_X0_member : GoodIn wsX5_holds (wsV RX5 72 RX0 yX0_member wsX0_member) := goodIn_app (goodIn_of _ (by decide +kernel)) ggX5_holds_X0_member
set_option maxRecDepth 20000 in
theorem ggX5_holds_X5_gatherFollowers : GoodIn wsX5_holds wsX5_gatherFollowers := goodIn_r _ [33, 34, 1, 2, 35, 36, 37, 38, 39, 40, 41, 42, 43, 44, 45, 46, 47, 48, 49, 16, 17, 18, 19, 20, 50, 51, 52, 53, 54, 55, 56, 22, 23, 24, 25, 26, 27, 28, 29, 4, 5, 6, 7, 8, 9, 57, 58, 59, 60, 61, 62, 63, 64, 65, 66, 67, 68, 69, 70, 71, 72, 73, 74, 75, 76, 77, 78, 79, 80, 81, 82, 83, 84, 85, 86, 87, 88, 89, 90, 91, 92, 93, 94, 95, 96, 97, 98, 99, 100, 101, 102, 103, 104, 105, 106, 107, 108, 109, 110, 111, 112, 113, 114, 115, 116, 117, 118, 119, 120, 121, 122, 123, 124, 141, 142, 143, 144, 145, 146, 147, 148, 154, 155, 156, 157, 158, 159, 160, 161, 162, 149, 150, 151, 152, 153, 163, 164, 165, 166] (by decide +kernel) (by decide +kernel)
set_option maxRecDepth 20000 in
theorem gX5_holds_X5_gatherFollowers : GoodIn wsX5_holds (wsV RX5 134 RX5 yX5_gatherFollowers wsX5_gatherFollowers) := goodIn_app (goodIn_of _ (by decide +kernel)) ggX5_holds_X5_gatherFollowers
set_option maxRecDepth 20000 in
theorem ggX5_holds_X1_spanSize : GoodIn wsX5_holds wsX1_spanSize := goodIn_r _ [128, 107, 129, 130, 43, 131, 163, 164, 165, 166] (by decide +kernel) (by decide +kernel)
set_option maxRecDepth 20000 in
theorem gX5_holds_X1_spanSize : GoodIn wsX5_holds (wsV RX5 146 RX1 yX1_spanSize wsX1_spanSize) := goodIn_app (goodIn_of _ (by decide +kernel)) ggX5_holds_X1_spanSize
set_option maxRecDepth 20000 in
theorem ggX5_holds_X1_least : GoodIn wsX5_holds wsX1_least := goodIn_r _ [135, 124, 136, 126, 127, 105, 128, 107, 129, 130, 43, 131, 163, 164, 165, 166] (by decide +kernel) (by decide +kernel)
set_option maxRecDepth 20000 in
theorem gX5_holds_X1_least : GoodIn wsX5_holds (wsV RX5 140 RX1 yX1_least wsX1_least) := goodIn_app (goodIn_of _ (by decide +kernel)) ggX5_holds_X1_least
set_option maxRecDepth 20000 in
theorem ggX5_holds_X1_greatest : GoodIn wsX5_holds wsX1_greatest := goodIn_r _ [140, 124, 107, 136, 126, 127, 105, 128, 129, 130, 43, 131, 163, 164, 165, 166] (by decide +kernel) (by decide +kernel)
set_option maxRecDepth 20000 in
theorem gX5_holds_X1_greatest : GoodIn wsX5_holds (wsV RX5 143 RX1 yX1_greatest wsX1_greatest) := goodIn_app (goodIn_of _ (by decide +kernel)) ggX5_holds_X1_greatest
theorem dX5_holds_0 : decode cX5_holds 0 = .ok (.iload_n 1, 1) := by decide +kernel
theorem dX5_holds_1 : decode cX5_holds 1 = .ok (.invokestatic 69, 3) := by decide +kernel
theorem dX5_holds_4 : decode cX5_holds 4 = .ok (.ifCond .eq 21, 3) := by decide +kernel
theorem dX5_holds_7 : decode cX5_holds 7 = .ok (.iload_n 2, 1) := by decide +kernel
theorem dX5_holds_8 : decode cX5_holds 8 = .ok (.iconst 0, 1) := by decide +kernel
theorem dX5_holds_9 : decode cX5_holds 9 = .ok (.iconst 5, 1) := by decide +kernel
theorem dX5_holds_10 : decode cX5_holds 10 = .ok (.invokestatic 81, 3) := by decide +kernel
theorem dX5_holds_13 : decode cX5_holds 13 = .ok (.ifCond .eq 12, 3) := by decide +kernel
theorem dX5_holds_16 : decode cX5_holds 16 = .ok (.iload_n 3, 1) := by decide +kernel
theorem dX5_holds_17 : decode cX5_holds 17 = .ok (.iconst 0, 1) := by decide +kernel
theorem dX5_holds_18 : decode cX5_holds 18 = .ok (.iconst 2, 1) := by decide +kernel
theorem dX5_holds_19 : decode cX5_holds 19 = .ok (.invokestatic 81, 3) := by decide +kernel
theorem dX5_holds_22 : decode cX5_holds 22 = .ok (.ifCond .ne 10, 3) := by decide +kernel
theorem dX5_holds_25 : decode cX5_holds 25 = .ok (.aload_n 0, 1) := by decide +kernel
theorem dX5_holds_26 : decode cX5_holds 26 = .ok (.bipush (-2), 2) := by decide +kernel
theorem dX5_holds_28 : decode cX5_holds 28 = .ok (.invokevirtual 48, 3) := by decide +kernel
theorem dX5_holds_31 : decode cX5_holds 31 = .ok (.ireturn, 1) := by decide +kernel
theorem dX5_holds_32 : decode cX5_holds 32 = .ok (.iconst 0, 1) := by decide +kernel
theorem dX5_holds_33 : decode cX5_holds 33 = .ok (.istore 4, 2) := by decide +kernel
theorem dX5_holds_35 : decode cX5_holds 35 = .ok (.iconst 0, 1) := by decide +kernel
theorem dX5_holds_36 : decode cX5_holds 36 = .ok (.istore 5, 2) := by decide +kernel
theorem dX5_holds_38 : decode cX5_holds 38 = .ok (.iconst 0, 1) := by decide +kernel
theorem dX5_holds_39 : decode cX5_holds 39 = .ok (.istore 6, 2) := by decide +kernel
theorem dX5_holds_41 : decode cX5_holds 41 = .ok (.iload 6, 2) := by decide +kernel
theorem dX5_holds_43 : decode cX5_holds 43 = .ok (.iconst 1, 1) := by decide +kernel
theorem dX5_holds_44 : decode cX5_holds 44 = .ok (.iadd, 1) := by decide +kernel
theorem dX5_holds_45 : decode cX5_holds 45 = .ok (.aload_n 0, 1) := by decide +kernel
theorem dX5_holds_46 : decode cX5_holds 46 = .ok (.getfield 10, 3) := by decide +kernel
theorem dX5_holds_49 : decode cX5_holds 49 = .ok (.invokevirtual 52, 3) := by decide +kernel
theorem dX5_holds_52 : decode cX5_holds 52 = .ok (.if_icmp .ge 88, 3) := by decide +kernel
theorem dX5_holds_55 : decode cX5_holds 55 = .ok (.aload_n 0, 1) := by decide +kernel
theorem dX5_holds_56 : decode cX5_holds 56 = .ok (.getfield 10, 3) := by decide +kernel
theorem dX5_holds_59 : decode cX5_holds 59 = .ok (.iload 6, 2) := by decide +kernel
theorem dX5_holds_61 : decode cX5_holds 61 = .ok (.iconst 1, 1) := by decide +kernel
theorem dX5_holds_62 : decode cX5_holds 62 = .ok (.iadd, 1) := by decide +kernel
theorem dX5_holds_63 : decode cX5_holds 63 = .ok (.iload_n 1, 1) := by decide +kernel
theorem dX5_holds_64 : decode cX5_holds 64 = .ok (.invokevirtual 72, 3) := by decide +kernel
theorem dX5_holds_67 : decode cX5_holds 67 = .ok (.istore 7, 2) := by decide +kernel
theorem dX5_holds_69 : decode cX5_holds 69 = .ok (.aload_n 0, 1) := by decide +kernel
theorem dX5_holds_70 : decode cX5_holds 70 = .ok (.iload 6, 2) := by decide +kernel
theorem dX5_holds_72 : decode cX5_holds 72 = .ok (.iload_n 1, 1) := by decide +kernel
theorem dX5_holds_73 : decode cX5_holds 73 = .ok (.invokevirtual 134, 3) := by decide +kernel
theorem dX5_holds_76 : decode cX5_holds 76 = .ok (.iload 7, 2) := by decide +kernel
theorem dX5_holds_78 : decode cX5_holds 78 = .ok (.sipush (-10000), 3) := by decide +kernel
theorem dX5_holds_81 : decode cX5_holds 81 = .ok (.if_icmp .eq 53, 3) := by decide +kernel
theorem dX5_holds_84 : decode cX5_holds 84 = .ok (.aload_n 0, 1) := by decide +kernel
theorem dX5_holds_85 : decode cX5_holds 85 = .ok (.getfield 33, 3) := by decide +kernel
theorem dX5_holds_88 : decode cX5_holds 88 = .ok (.iload_n 2, 1) := by decide +kernel
theorem dX5_holds_89 : decode cX5_holds 89 = .ok (.invokevirtual 146, 3) := by decide +kernel
theorem dX5_holds_92 : decode cX5_holds 92 = .ok (.ifCond .le 42, 3) := by decide +kernel
theorem dX5_holds_95 : decode cX5_holds 95 = .ok (.iinc 4 1, 3) := by decide +kernel
theorem dX5_holds_98 : decode cX5_holds 98 = .ok (.iload 5, 2) := by decide +kernel
theorem dX5_holds_100 : decode cX5_holds 100 = .ok (.aload_n 0, 1) := by decide +kernel
theorem dX5_holds_101 : decode cX5_holds 101 = .ok (.getfield 33, 3) := by decide +kernel
theorem dX5_holds_104 : decode cX5_holds 104 = .ok (.iload_n 2, 1) := by decide +kernel
theorem dX5_holds_105 : decode cX5_holds 105 = .ok (.invokevirtual 140, 3) := by decide +kernel
theorem dX5_holds_108 : decode cX5_holds 108 = .ok (.iload 7, 2) := by decide +kernel
theorem dX5_holds_110 : decode cX5_holds 110 = .ok (.if_icmp .gt 20, 3) := by decide +kernel
theorem dX5_holds_113 : decode cX5_holds 113 = .ok (.iload 7, 2) := by decide +kernel
theorem dX5_holds_115 : decode cX5_holds 115 = .ok (.aload_n 0, 1) := by decide +kernel
theorem dX5_holds_116 : decode cX5_holds 116 = .ok (.getfield 33, 3) := by decide +kernel
theorem dX5_holds_119 : decode cX5_holds 119 = .ok (.iload_n 2, 1) := by decide +kernel
theorem dX5_holds_120 : decode cX5_holds 120 = .ok (.invokevirtual 143, 3) := by decide +kernel
theorem dX5_holds_123 : decode cX5_holds 123 = .ok (.if_icmp .gt 7, 3) := by decide +kernel
theorem dX5_holds_126 : decode cX5_holds 126 = .ok (.iconst 1, 1) := by decide +kernel
theorem dX5_holds_127 : decode cX5_holds 127 = .ok (.goto 4, 3) := by decide +kernel
theorem dX5_holds_130 : decode cX5_holds 130 = .ok (.iconst 0, 1) := by decide +kernel
theorem dX5_holds_131 : decode cX5_holds 131 = .ok (.iadd, 1) := by decide +kernel
theorem dX5_holds_132 : decode cX5_holds 132 = .ok (.istore 5, 2) := by decide +kernel
theorem dX5_holds_134 : decode cX5_holds 134 = .ok (.iinc 6 1, 3) := by decide +kernel
theorem dX5_holds_137 : decode cX5_holds 137 = .ok (.goto (-96), 3) := by decide +kernel
theorem dX5_holds_140 : decode cX5_holds 140 = .ok (.iload_n 3, 1) := by decide +kernel
theorem dX5_holds_141 : decode cX5_holds 141 = .ok (.iconst 2, 1) := by decide +kernel
theorem dX5_holds_142 : decode cX5_holds 142 = .ok (.if_icmp .ne 22, 3) := by decide +kernel
theorem dX5_holds_145 : decode cX5_holds 145 = .ok (.iload 4, 2) := by decide +kernel
theorem dX5_holds_147 : decode cX5_holds 147 = .ok (.ifCond .ne 7, 3) := by decide +kernel
theorem dX5_holds_150 : decode cX5_holds 150 = .ok (.iconst 0, 1) := by decide +kernel
theorem dX5_holds_151 : decode cX5_holds 151 = .ok (.goto 12, 3) := by decide +kernel
theorem dX5_holds_154 : decode cX5_holds 154 = .ok (.iload 5, 2) := by decide +kernel
theorem dX5_holds_156 : decode cX5_holds 156 = .ok (.sipush 1000, 3) := by decide +kernel
theorem dX5_holds_159 : decode cX5_holds 159 = .ok (.imul, 1) := by decide +kernel
theorem dX5_holds_160 : decode cX5_holds 160 = .ok (.iload 4, 2) := by decide +kernel
theorem dX5_holds_162 : decode cX5_holds 162 = .ok (.idiv, 1) := by decide +kernel
theorem dX5_holds_163 : decode cX5_holds 163 = .ok (.ireturn, 1) := by decide +kernel
theorem dX5_holds_164 : decode cX5_holds 164 = .ok (.iload_n 3, 1) := by decide +kernel
theorem dX5_holds_165 : decode cX5_holds 165 = .ok (.ifCond .ne 8, 3) := by decide +kernel
theorem dX5_holds_168 : decode cX5_holds 168 = .ok (.iload 4, 2) := by decide +kernel
theorem dX5_holds_170 : decode cX5_holds 170 = .ok (.goto 5, 3) := by decide +kernel
theorem dX5_holds_173 : decode cX5_holds 173 = .ok (.iload 5, 2) := by decide +kernel
theorem dX5_holds_175 : decode cX5_holds 175 = .ok (.ireturn, 1) := by decide +kernel
set_option maxRecDepth 20000 in
theorem ggX5_errs_X5_isMember : GoodIn wsX5_errs wsX5_isMember := goodIn_r _ [6, 7, 8, 5, 9] (by decide +kernel) (by decide +kernel)
set_option maxRecDepth 20000 in
theorem gX5_errs_X5_isMember : GoodIn wsX5_errs (va_wsS RX5 69 yX5_isMember wsX5_isMember) := goodIn_app (goodIn_of _ (by decide +kernel)) ggX5_errs_X5_isMember
set_option maxRecDepth 20000 in
theorem ggX5_errs_X5_refuseBad : GoodIn wsX5_errs wsX5_refuseBad := goodIn_r _ [13, 14, 143, 144, 145, 146, 147, 148, 149, 150] (by decide +kernel) (by decide +kernel)
set_option maxRecDepth 20000 in
theorem gX5_errs_X5_refuseBad : GoodIn wsX5_errs (wsV RX5 48 RX5 yX5_refuseBad wsX5_refuseBad) := goodIn_app (goodIn_of _ (by decide +kernel)) ggX5_errs_X5_refuseBad
set_option maxRecDepth 20000 in
theorem ggX5_errs_X2_learn : GoodIn wsX5_errs wsX2_learn := goodIn_r _ [19, 20, 21, 22, 23, 24, 25, 26, 27, 28, 29, 30, 31, 32, 33, 34, 35, 36, 37, 18, 38, 39, 40, 41, 42, 43, 44, 45, 46, 47, 48, 49, 4, 5, 6, 7, 8, 9, 50, 51, 52, 53, 54, 55, 56, 57, 58, 59, 60, 61, 62, 63, 64, 65, 66, 67, 68, 69, 70, 71, 72, 73, 74, 75, 76, 77, 78, 79, 80, 81, 82, 83, 84, 85, 86, 87, 88, 89, 90, 151, 152, 153, 154, 155, 156, 157, 158, 159, 160, 161, 162, 163, 164] (by decide +kernel) (by decide +kernel)
set_option maxRecDepth 20000 in
theorem gX5_errs_X2_learn : GoodIn wsX5_errs (wsV RX5 102 RX2 yX2_learn wsX2_learn) := goodIn_app (goodIn_of _ (by decide +kernel)) ggX5_errs_X2_learn
set_option maxRecDepth 20000 in
theorem ggX5_errs_X0_few : GoodIn wsX5_errs wsX0_few := goodIn_r _ [94, 58, 160, 161, 162, 163, 164] (by decide +kernel) (by decide +kernel)
set_option maxRecDepth 20000 in
theorem gX5_errs_X0_few : GoodIn wsX5_errs (wsV RX5 114 RX0 yX0_few wsX0_few) := goodIn_app (goodIn_of _ (by decide +kernel)) ggX5_errs_X0_few
set_option maxRecDepth 20000 in
theorem ggX5_errs_X5_meanError : GoodIn wsX5_errs wsX5_meanError := goodIn_r _ [98, 2, 99, 1, 100, 101, 30, 31, 32, 33, 34, 102, 42, 43, 44, 45, 46, 47, 48, 49, 4, 5, 6, 7, 8, 9, 103, 104, 105, 106, 107, 108, 109, 110, 111, 18, 112, 77, 21, 22, 23, 24, 87, 88, 89, 90, 25, 113, 114, 115, 116, 82, 117, 118, 84, 85, 86, 28, 64, 119, 120, 121, 122, 123, 124, 125, 126, 127, 128, 129, 130, 131, 132, 133, 50, 51, 52, 134, 143, 144, 145, 146, 147, 148, 149, 150, 160, 161, 162, 163, 164, 165, 166, 167, 168, 151, 152, 153, 154, 155, 156, 157, 158, 159] (by decide +kernel) (by decide +kernel)
set_option maxRecDepth 20000 in
theorem gX5_errs_X5_meanError : GoodIn wsX5_errs (wsV RX5 166 RX5 yX5_meanError wsX5_meanError) := goodIn_app (goodIn_of _ (by decide +kernel)) ggX5_errs_X5_meanError
set_option maxRecDepth 20000 in
theorem ggX5_errs_X5_bitsOrNone : GoodIn wsX5_errs wsX5_bitsOrNone := goodIn_r _ [137, 138, 139, 5, 140, 141, 142] (by decide +kernel) (by decide +kernel)
set_option maxRecDepth 20000 in
theorem gX5_errs_X5_bitsOrNone : GoodIn wsX5_errs (va_wsS RX5 110 yX5_bitsOrNone wsX5_bitsOrNone) := goodIn_app (goodIn_of _ (by decide +kernel)) ggX5_errs_X5_bitsOrNone
theorem dX5_errs_0 : decode cX5_errs 0 = .ok (.iload_n 1, 1) := by decide +kernel
theorem dX5_errs_1 : decode cX5_errs 1 = .ok (.invokestatic 69, 3) := by decide +kernel
theorem dX5_errs_4 : decode cX5_errs 4 = .ok (.ifCond .ne 10, 3) := by decide +kernel
theorem dX5_errs_7 : decode cX5_errs 7 = .ok (.aload_n 0, 1) := by decide +kernel
theorem dX5_errs_8 : decode cX5_errs 8 = .ok (.bipush (-2), 2) := by decide +kernel
theorem dX5_errs_10 : decode cX5_errs 10 = .ok (.invokevirtual 48, 3) := by decide +kernel
theorem dX5_errs_13 : decode cX5_errs 13 = .ok (.ireturn, 1) := by decide +kernel
theorem dX5_errs_14 : decode cX5_errs 14 = .ok (.aload_n 0, 1) := by decide +kernel
theorem dX5_errs_15 : decode cX5_errs 15 = .ok (.getfield 26, 3) := by decide +kernel
theorem dX5_errs_18 : decode cX5_errs 18 = .ok (.aload_n 0, 1) := by decide +kernel
theorem dX5_errs_19 : decode cX5_errs 19 = .ok (.getfield 10, 3) := by decide +kernel
theorem dX5_errs_22 : decode cX5_errs 22 = .ok (.iconst (-1), 1) := by decide +kernel
theorem dX5_errs_23 : decode cX5_errs 23 = .ok (.invokevirtual 102, 3) := by decide +kernel
theorem dX5_errs_26 : decode cX5_errs 26 = .ok (.aload_n 0, 1) := by decide +kernel
theorem dX5_errs_27 : decode cX5_errs 27 = .ok (.iload_n 1, 1) := by decide +kernel
theorem dX5_errs_28 : decode cX5_errs 28 = .ok (.aload_n 0, 1) := by decide +kernel
theorem dX5_errs_29 : decode cX5_errs 29 = .ok (.getfield 10, 3) := by decide +kernel
theorem dX5_errs_32 : decode cX5_errs 32 = .ok (.invokevirtual 114, 3) := by decide +kernel
theorem dX5_errs_35 : decode cX5_errs 35 = .ok (.invokevirtual 166, 3) := by decide +kernel
theorem dX5_errs_38 : decode cX5_errs 38 = .ok (.invokestatic 110, 3) := by decide +kernel
theorem dX5_errs_41 : decode cX5_errs 41 = .ok (.ireturn, 1) := by decide +kernel
set_option maxRecDepth 20000 in
theorem ggX5_best_X5_isMember : GoodIn wsX5_best wsX5_isMember := goodIn_r _ [7, 8, 9, 6, 10] (by decide +kernel) (by decide +kernel)
set_option maxRecDepth 20000 in
theorem gX5_best_X5_isMember : GoodIn wsX5_best (va_wsS RX5 69 yX5_isMember wsX5_isMember) := goodIn_app (goodIn_of _ (by decide +kernel)) ggX5_best_X5_isMember
set_option maxRecDepth 20000 in
theorem ggX5_best_X5_isWithin : GoodIn wsX5_best wsX5_isWithin := goodIn_r _ [10] (by decide +kernel) (by decide +kernel)
set_option maxRecDepth 20000 in
theorem gX5_best_X5_isWithin : GoodIn wsX5_best (va_wsS RX5 81 yX5_isWithin wsX5_isWithin) := goodIn_app (goodIn_of _ (by decide +kernel)) ggX5_best_X5_isWithin
set_option maxRecDepth 20000 in
theorem ggX5_best_X5_refuseBad : GoodIn wsX5_best wsX5_refuseBad := goodIn_r _ [14, 15, 142, 143, 144, 145, 146, 147, 148, 149] (by decide +kernel) (by decide +kernel)
set_option maxRecDepth 20000 in
theorem gX5_best_X5_refuseBad : GoodIn wsX5_best (wsV RX5 48 RX5 yX5_refuseBad wsX5_refuseBad) := goodIn_app (goodIn_of _ (by decide +kernel)) ggX5_best_X5_refuseBad
set_option maxRecDepth 20000 in
theorem ggX5_best_X2_learn : GoodIn wsX5_best wsX2_learn := goodIn_r _ [20, 21, 22, 23, 24, 25, 26, 27, 28, 29, 30, 31, 32, 33, 34, 35, 36, 37, 38, 19, 39, 40, 41, 42, 43, 44, 45, 46, 47, 48, 49, 50, 5, 6, 7, 8, 9, 10, 51, 52, 53, 54, 55, 56, 57, 58, 59, 60, 61, 62, 63, 64, 65, 66, 67, 68, 69, 70, 71, 72, 73, 74, 75, 76, 77, 78, 79, 80, 81, 82, 83, 84, 85, 86, 87, 88, 89, 90, 91, 150, 151, 152, 153, 154, 155, 156, 157, 158, 159, 160, 161, 162, 163] (by decide +kernel) (by decide +kernel)
set_option maxRecDepth 20000 in
theorem gX5_best_X2_learn : GoodIn wsX5_best (wsV RX5 102 RX2 yX2_learn wsX2_learn) := goodIn_app (goodIn_of _ (by decide +kernel)) ggX5_best_X2_learn
set_option maxRecDepth 20000 in
theorem ggX5_best_X5_meanError : GoodIn wsX5_best wsX5_meanError := goodIn_r _ [95, 2, 96, 1, 3, 97, 31, 32, 33, 34, 35, 98, 43, 44, 45, 46, 47, 48, 49, 50, 5, 6, 7, 8, 9, 10, 99, 100, 101, 102, 103, 104, 105, 106, 107, 19, 108, 78, 22, 23, 24, 25, 88, 89, 90, 91, 26, 109, 110, 111, 112, 83, 113, 114, 85, 86, 87, 29, 65, 115, 116, 117, 118, 119, 120, 121, 122, 123, 124, 125, 126, 127, 128, 129, 51, 52, 53, 130, 142, 143, 144, 145, 146, 147, 148, 149, 159, 160, 161, 162, 163, 164, 165, 166, 167, 150, 151, 152, 153, 154, 155, 156, 157, 158] (by decide +kernel) (by decide +kernel)
set_option maxRecDepth 20000 in
theorem gX5_best_X5_meanError : GoodIn wsX5_best (wsV RX5 166 RX5 yX5_meanError wsX5_meanError) := goodIn_app (goodIn_of _ (by decide +kernel)) ggX5_best_X5_meanError
set_option maxRecDepth 20000 in
theorem ggX5_best_X5_isLess : GoodIn wsX5_best wsX5_isLess := goodIn_r _ [133] (by decide +kernel) (by decide +kernel)
set_option maxRecDepth 20000 in
theorem gX5_best_X5_isLess : GoodIn wsX5_best (va_wsS RX5 130 yX5_isLess wsX5_isLess) := goodIn_app (goodIn_of _ (by decide +kernel)) ggX5_best_X5_isLess
set_option maxRecDepth 20000 in
theorem ggX5_best_X5_bitsOrNone : GoodIn wsX5_best wsX5_bitsOrNone := goodIn_r _ [136, 137, 138, 6, 139, 140, 141] (by decide +kernel) (by decide +kernel)
set_option maxRecDepth 20000 in
theorem gX5_best_X5_bitsOrNone : GoodIn wsX5_best (va_wsS RX5 110 yX5_bitsOrNone wsX5_bitsOrNone) := goodIn_app (goodIn_of _ (by decide +kernel)) ggX5_best_X5_bitsOrNone
theorem dX5_best_0 : decode cX5_best 0 = .ok (.iload_n 1, 1) := by decide +kernel
theorem dX5_best_1 : decode cX5_best 1 = .ok (.invokestatic 69, 3) := by decide +kernel
theorem dX5_best_4 : decode cX5_best 4 = .ok (.ifCond .eq 12, 3) := by decide +kernel
theorem dX5_best_7 : decode cX5_best 7 = .ok (.iload_n 2, 1) := by decide +kernel
theorem dX5_best_8 : decode cX5_best 8 = .ok (.iconst 0, 1) := by decide +kernel
theorem dX5_best_9 : decode cX5_best 9 = .ok (.iconst 1, 1) := by decide +kernel
theorem dX5_best_10 : decode cX5_best 10 = .ok (.invokestatic 81, 3) := by decide +kernel
theorem dX5_best_13 : decode cX5_best 13 = .ok (.ifCond .ne 10, 3) := by decide +kernel
theorem dX5_best_16 : decode cX5_best 16 = .ok (.aload_n 0, 1) := by decide +kernel
theorem dX5_best_17 : decode cX5_best 17 = .ok (.bipush (-2), 2) := by decide +kernel
theorem dX5_best_19 : decode cX5_best 19 = .ok (.invokevirtual 48, 3) := by decide +kernel
theorem dX5_best_22 : decode cX5_best 22 = .ok (.ireturn, 1) := by decide +kernel
theorem dX5_best_23 : decode cX5_best 23 = .ok (.aload_n 0, 1) := by decide +kernel
theorem dX5_best_24 : decode cX5_best 24 = .ok (.getfield 26, 3) := by decide +kernel
theorem dX5_best_27 : decode cX5_best 27 = .ok (.aload_n 0, 1) := by decide +kernel
theorem dX5_best_28 : decode cX5_best 28 = .ok (.getfield 10, 3) := by decide +kernel
theorem dX5_best_31 : decode cX5_best 31 = .ok (.iconst (-1), 1) := by decide +kernel
theorem dX5_best_32 : decode cX5_best 32 = .ok (.invokevirtual 102, 3) := by decide +kernel
theorem dX5_best_35 : decode cX5_best 35 = .ok (.iconst (-1), 1) := by decide +kernel
theorem dX5_best_36 : decode cX5_best 36 = .ok (.istore_n 3, 1) := by decide +kernel
theorem dX5_best_37 : decode cX5_best 37 = .ok (.ldc 129, 2) := by decide +kernel
theorem dX5_best_39 : decode cX5_best 39 = .ok (.fstore 4, 2) := by decide +kernel
theorem dX5_best_41 : decode cX5_best 41 = .ok (.iconst 1, 1) := by decide +kernel
theorem dX5_best_42 : decode cX5_best 42 = .ok (.istore 5, 2) := by decide +kernel
theorem dX5_best_44 : decode cX5_best 44 = .ok (.iload 5, 2) := by decide +kernel
theorem dX5_best_46 : decode cX5_best 46 = .ok (.bipush 12, 2) := by decide +kernel
theorem dX5_best_48 : decode cX5_best 48 = .ok (.if_icmp .gt 35, 3) := by decide +kernel
theorem dX5_best_51 : decode cX5_best 51 = .ok (.aload_n 0, 1) := by decide +kernel
theorem dX5_best_52 : decode cX5_best 52 = .ok (.iload_n 1, 1) := by decide +kernel
theorem dX5_best_53 : decode cX5_best 53 = .ok (.iload 5, 2) := by decide +kernel
theorem dX5_best_55 : decode cX5_best 55 = .ok (.invokevirtual 166, 3) := by decide +kernel
theorem dX5_best_58 : decode cX5_best 58 = .ok (.fstore 6, 2) := by decide +kernel
theorem dX5_best_60 : decode cX5_best 60 = .ok (.fload 6, 2) := by decide +kernel
theorem dX5_best_62 : decode cX5_best 62 = .ok (.fload 4, 2) := by decide +kernel
theorem dX5_best_64 : decode cX5_best 64 = .ok (.invokestatic 130, 3) := by decide +kernel
theorem dX5_best_67 : decode cX5_best 67 = .ok (.ifCond .eq 10, 3) := by decide +kernel
theorem dX5_best_70 : decode cX5_best 70 = .ok (.fload 6, 2) := by decide +kernel
theorem dX5_best_72 : decode cX5_best 72 = .ok (.fstore 4, 2) := by decide +kernel
theorem dX5_best_74 : decode cX5_best 74 = .ok (.iload 5, 2) := by decide +kernel
theorem dX5_best_76 : decode cX5_best 76 = .ok (.istore_n 3, 1) := by decide +kernel
theorem dX5_best_77 : decode cX5_best 77 = .ok (.iinc 5 1, 3) := by decide +kernel
theorem dX5_best_80 : decode cX5_best 80 = .ok (.goto (-36), 3) := by decide +kernel
theorem dX5_best_83 : decode cX5_best 83 = .ok (.iload_n 2, 1) := by decide +kernel
theorem dX5_best_84 : decode cX5_best 84 = .ok (.ifCond .ne 7, 3) := by decide +kernel
theorem dX5_best_87 : decode cX5_best 87 = .ok (.iload_n 3, 1) := by decide +kernel
theorem dX5_best_88 : decode cX5_best 88 = .ok (.goto 8, 3) := by decide +kernel
theorem dX5_best_91 : decode cX5_best 91 = .ok (.fload 4, 2) := by decide +kernel
theorem dX5_best_93 : decode cX5_best 93 = .ok (.invokestatic 110, 3) := by decide +kernel
theorem dX5_best_96 : decode cX5_best 96 = .ok (.ireturn, 1) := by decide +kernel
set_option maxRecDepth 20000 in
theorem ggX5_spare_X5_isMember : GoodIn wsX5_spare wsX5_isMember := goodIn_r _ [7, 8, 9, 6, 10] (by decide +kernel) (by decide +kernel)
set_option maxRecDepth 20000 in
theorem gX5_spare_X5_isMember : GoodIn wsX5_spare (va_wsS RX5 69 yX5_isMember wsX5_isMember) := goodIn_app (goodIn_of _ (by decide +kernel)) ggX5_spare_X5_isMember
set_option maxRecDepth 20000 in
theorem ggX5_spare_X5_refuseBad : GoodIn wsX5_spare wsX5_refuseBad := goodIn_r _ [14, 15, 138, 139, 140, 141, 142, 143, 144, 145] (by decide +kernel) (by decide +kernel)
set_option maxRecDepth 20000 in
theorem gX5_spare_X5_refuseBad : GoodIn wsX5_spare (wsV RX5 48 RX5 yX5_refuseBad wsX5_refuseBad) := goodIn_app (goodIn_of _ (by decide +kernel)) ggX5_spare_X5_refuseBad
set_option maxRecDepth 20000 in
theorem ggX5_spare_X2_learn : GoodIn wsX5_spare wsX2_learn := goodIn_r _ [20, 21, 22, 23, 24, 25, 26, 27, 28, 29, 30, 31, 32, 33, 34, 35, 36, 37, 38, 19, 39, 40, 41, 42, 43, 44, 45, 46, 47, 48, 49, 50, 5, 6, 7, 8, 9, 10, 51, 52, 53, 54, 55, 56, 57, 58, 59, 60, 61, 62, 63, 64, 65, 66, 67, 68, 69, 70, 71, 72, 73, 74, 75, 76, 77, 78, 79, 80, 81, 82, 83, 84, 85, 86, 87, 88, 89, 90, 91, 146, 147, 148, 149, 150, 151, 152, 153, 154, 155, 156, 157, 158, 159] (by decide +kernel) (by decide +kernel)
set_option maxRecDepth 20000 in
theorem gX5_spare_X2_learn : GoodIn wsX5_spare (wsV RX5 102 RX2 yX2_learn wsX2_learn) := goodIn_app (goodIn_of _ (by decide +kernel)) ggX5_spare_X2_learn
set_option maxRecDepth 20000 in
theorem ggX5_spare_X0_few : GoodIn wsX5_spare wsX0_few := goodIn_r _ [95, 59, 155, 156, 157, 158, 159] (by decide +kernel) (by decide +kernel)
set_option maxRecDepth 20000 in
theorem gX5_spare_X0_few : GoodIn wsX5_spare (wsV RX5 114 RX0 yX0_few wsX0_few) := goodIn_app (goodIn_of _ (by decide +kernel)) ggX5_spare_X0_few
set_option maxRecDepth 20000 in
theorem ggX5_spare_X5_meanError : GoodIn wsX5_spare wsX5_meanError := goodIn_r _ [99, 3, 100, 2, 1, 101, 31, 32, 33, 34, 35, 102, 43, 44, 45, 46, 47, 48, 49, 50, 5, 6, 7, 8, 9, 10, 103, 104, 105, 106, 107, 108, 109, 110, 111, 19, 112, 78, 22, 23, 24, 25, 88, 89, 90, 91, 26, 113, 114, 115, 116, 83, 117, 118, 85, 86, 87, 29, 65, 119, 120, 121, 122, 123, 124, 125, 126, 127, 128, 129, 130, 131, 132, 133, 51, 52, 53, 134, 138, 139, 140, 141, 142, 143, 144, 145, 155, 156, 157, 158, 159, 160, 161, 162, 163, 146, 147, 148, 149, 150, 151, 152, 153, 154] (by decide +kernel) (by decide +kernel)
set_option maxRecDepth 20000 in
theorem gX5_spare_X5_meanError : GoodIn wsX5_spare (wsV RX5 166 RX5 yX5_meanError wsX5_meanError) := goodIn_app (goodIn_of _ (by decide +kernel)) ggX5_spare_X5_meanError
set_option maxRecDepth 20000 in
theorem ggX5_spare_X5_isLess : GoodIn wsX5_spare wsX5_isLess := goodIn_r _ [137] (by decide +kernel) (by decide +kernel)
set_option maxRecDepth 20000 in
theorem gX5_spare_X5_isLess : GoodIn wsX5_spare (va_wsS RX5 130 yX5_isLess wsX5_isLess) := goodIn_app (goodIn_of _ (by decide +kernel)) ggX5_spare_X5_isLess
theorem dX5_spare_0 : decode cX5_spare 0 = .ok (.iload_n 1, 1) := by decide +kernel
theorem dX5_spare_1 : decode cX5_spare 1 = .ok (.invokestatic 69, 3) := by decide +kernel
theorem dX5_spare_4 : decode cX5_spare 4 = .ok (.ifCond .ne 10, 3) := by decide +kernel
theorem dX5_spare_7 : decode cX5_spare 7 = .ok (.aload_n 0, 1) := by decide +kernel
theorem dX5_spare_8 : decode cX5_spare 8 = .ok (.bipush (-2), 2) := by decide +kernel
theorem dX5_spare_10 : decode cX5_spare 10 = .ok (.invokevirtual 48, 3) := by decide +kernel
theorem dX5_spare_13 : decode cX5_spare 13 = .ok (.ireturn, 1) := by decide +kernel
theorem dX5_spare_14 : decode cX5_spare 14 = .ok (.iconst (-1), 1) := by decide +kernel
theorem dX5_spare_15 : decode cX5_spare 15 = .ok (.istore_n 2, 1) := by decide +kernel
theorem dX5_spare_16 : decode cX5_spare 16 = .ok (.ldc 129, 2) := by decide +kernel
theorem dX5_spare_18 : decode cX5_spare 18 = .ok (.fstore_n 3, 1) := by decide +kernel
theorem dX5_spare_19 : decode cX5_spare 19 = .ok (.iconst 0, 1) := by decide +kernel
theorem dX5_spare_20 : decode cX5_spare 20 = .ok (.istore 4, 2) := by decide +kernel
theorem dX5_spare_22 : decode cX5_spare 22 = .ok (.iload 4, 2) := by decide +kernel
theorem dX5_spare_24 : decode cX5_spare 24 = .ok (.iconst 4, 1) := by decide +kernel
theorem dX5_spare_25 : decode cX5_spare 25 = .ok (.if_icmp .ge 51, 3) := by decide +kernel
theorem dX5_spare_28 : decode cX5_spare 28 = .ok (.aload_n 0, 1) := by decide +kernel
theorem dX5_spare_29 : decode cX5_spare 29 = .ok (.getfield 26, 3) := by decide +kernel
theorem dX5_spare_32 : decode cX5_spare 32 = .ok (.aload_n 0, 1) := by decide +kernel
theorem dX5_spare_33 : decode cX5_spare 33 = .ok (.getfield 10, 3) := by decide +kernel
theorem dX5_spare_36 : decode cX5_spare 36 = .ok (.iload 4, 2) := by decide +kernel
theorem dX5_spare_38 : decode cX5_spare 38 = .ok (.invokevirtual 102, 3) := by decide +kernel
theorem dX5_spare_41 : decode cX5_spare 41 = .ok (.aload_n 0, 1) := by decide +kernel
theorem dX5_spare_42 : decode cX5_spare 42 = .ok (.iload_n 1, 1) := by decide +kernel
