theorem dX6_rules_61 : decode cX6_rules 61 = .ok (.ireturn, 1) := by decide +kernel
theorem dX6_rules_62 : decode cX6_rules 62 = .ok (.aload_n 0, 1) := by decide +kernel
theorem dX6_rules_63 : decode cX6_rules 63 = .ok (.invokevirtual 66, 3) := by decide +kernel
theorem dX6_rules_66 : decode cX6_rules 66 = .ok (.aload_n 0, 1) := by decide +kernel
theorem dX6_rules_67 : decode cX6_rules 67 = .ok (.getfield 13, 3) := by decide +kernel
theorem dX6_rules_70 : decode cX6_rules 70 = .ok (.iload_n 1, 1) := by decide +kernel
theorem dX6_rules_71 : decode cX6_rules 71 = .ok (.iaload, 1) := by decide +kernel
theorem dX6_rules_72 : decode cX6_rules 72 = .ok (.istore 4, 2) := by decide +kernel
theorem dX6_rules_74 : decode cX6_rules 74 = .ok (.aload_n 0, 1) := by decide +kernel
theorem dX6_rules_75 : decode cX6_rules 75 = .ok (.getfield 13, 3) := by decide +kernel
theorem dX6_rules_78 : decode cX6_rules 78 = .ok (.iload_n 1, 1) := by decide +kernel
theorem dX6_rules_79 : decode cX6_rules 79 = .ok (.iload_n 2, 1) := by decide +kernel
theorem dX6_rules_80 : decode cX6_rules 80 = .ok (.iastore, 1) := by decide +kernel
theorem dX6_rules_81 : decode cX6_rules 81 = .ok (.iload 4, 2) := by decide +kernel
theorem dX6_rules_83 : decode cX6_rules 83 = .ok (.ireturn, 1) := by decide +kernel
set_option maxRecDepth 20000 in
theorem ggX6_at_X6_isDay : GoodIn wsX6_at wsX6_isDay := goodIn_r _ [6, 7, 8, 9, 5, 10, 19, 20, 21, 22, 23, 24, 25, 26, 27, 28, 29, 30, 31, 32, 33, 34, 35, 36, 37, 38, 39] (by decide +kernel) (by decide +kernel)
set_option maxRecDepth 20000 in
theorem gX6_at_X6_isDay : GoodIn wsX6_at (wsV RX6 73 RX6 yX6_isDay wsX6_isDay) := goodIn_app (goodIn_of _ (by decide +kernel)) ggX6_at_X6_isDay
set_option maxRecDepth 20000 in
theorem ggX6_at_X6_isMember : GoodIn wsX6_at wsX6_isMember := goodIn_r _ [13, 8, 9, 5, 10] (by decide +kernel) (by decide +kernel)
set_option maxRecDepth 20000 in
theorem gX6_at_X6_isMember : GoodIn wsX6_at (va_wsS RX6 76 yX6_isMember wsX6_isMember) := goodIn_app (goodIn_of _ (by decide +kernel)) ggX6_at_X6_isMember
set_option maxRecDepth 20000 in
theorem ggX6_at_X6_badly : GoodIn wsX6_at wsX6_badly := goodIn_r _ [17, 18, 19, 20, 21, 22, 23, 24, 25, 26, 27, 28, 29, 30, 31, 32, 33, 34, 35, 36, 37, 38, 39] (by decide +kernel) (by decide +kernel)
set_option maxRecDepth 20000 in
theorem gX6_at_X6_badly : GoodIn wsX6_at (wsV RX6 79 RX6 yX6_badly wsX6_badly) := goodIn_app (goodIn_of _ (by decide +kernel)) ggX6_at_X6_badly
theorem dX6_at_0 : decode cX6_at 0 = .ok (.aload_n 0, 1) := by decide +kernel
theorem dX6_at_1 : decode cX6_at 1 = .ok (.iload_n 1, 1) := by decide +kernel
theorem dX6_at_2 : decode cX6_at 2 = .ok (.invokevirtual 73, 3) := by decide +kernel
theorem dX6_at_5 : decode cX6_at 5 = .ok (.ifCond .eq 23, 3) := by decide +kernel
theorem dX6_at_8 : decode cX6_at 8 = .ok (.iload_n 2, 1) := by decide +kernel
theorem dX6_at_9 : decode cX6_at 9 = .ok (.invokestatic 76, 3) := by decide +kernel
theorem dX6_at_12 : decode cX6_at 12 = .ok (.ifCond .eq 16, 3) := by decide +kernel
theorem dX6_at_15 : decode cX6_at 15 = .ok (.aload_n 0, 1) := by decide +kernel
theorem dX6_at_16 : decode cX6_at 16 = .ok (.getfield 16, 3) := by decide +kernel
theorem dX6_at_19 : decode cX6_at 19 = .ok (.iconst 4, 1) := by decide +kernel
theorem dX6_at_20 : decode cX6_at 20 = .ok (.iload_n 1, 1) := by decide +kernel
theorem dX6_at_21 : decode cX6_at 21 = .ok (.imul, 1) := by decide +kernel
theorem dX6_at_22 : decode cX6_at 22 = .ok (.iload_n 2, 1) := by decide +kernel
theorem dX6_at_23 : decode cX6_at 23 = .ok (.iadd, 1) := by decide +kernel
theorem dX6_at_24 : decode cX6_at 24 = .ok (.iaload, 1) := by decide +kernel
theorem dX6_at_25 : decode cX6_at 25 = .ok (.goto 7, 3) := by decide +kernel
theorem dX6_at_28 : decode cX6_at 28 = .ok (.aload_n 0, 1) := by decide +kernel
theorem dX6_at_29 : decode cX6_at 29 = .ok (.invokevirtual 79, 3) := by decide +kernel
theorem dX6_at_32 : decode cX6_at 32 = .ok (.ireturn, 1) := by decide +kernel
theorem dX6_value_0 : decode cX6_value 0 = .ok (.iload_n 0, 1) := by decide +kernel
theorem dX6_value_1 : decode cX6_value 1 = .ok (.i2f, 1) := by decide +kernel
theorem dX6_value_2 : decode cX6_value 2 = .ok (.ldc 101, 2) := by decide +kernel
theorem dX6_value_4 : decode cX6_value 4 = .ok (.fdiv, 1) := by decide +kernel
theorem dX6_value_5 : decode cX6_value 5 = .ok (.freturn, 1) := by decide +kernel
set_option maxRecDepth 20000 in
theorem ggX6_distanceOf_X6_isNoted : GoodIn wsX6_distanceOf wsX6_isNoted := goodIn_r _ [8] (by decide +kernel) (by decide +kernel)
set_option maxRecDepth 20000 in
theorem gX6_distanceOf_X6_isNoted : GoodIn wsX6_distanceOf (va_wsS RX6 106 yX6_isNoted wsX6_isNoted) := goodIn_app (goodIn_of _ (by decide +kernel)) ggX6_distanceOf_X6_isNoted
set_option maxRecDepth 20000 in
theorem ggX6_distanceOf_X6_value : GoodIn wsX6_distanceOf wsX6_value := goodIn_r _ [11, 12] (by decide +kernel) (by decide +kernel)
set_option maxRecDepth 20000 in
theorem gX6_distanceOf_X6_value : GoodIn wsX6_distanceOf (va_wsS RX6 110 yX6_value wsX6_value) := goodIn_app (goodIn_of _ (by decide +kernel)) ggX6_distanceOf_X6_value
theorem dX6_distanceOf_0 : decode cX6_distanceOf 0 = .ok (.iload_n 1, 1) := by decide +kernel
theorem dX6_distanceOf_1 : decode cX6_distanceOf 1 = .ok (.iload_n 2, 1) := by decide +kernel
theorem dX6_distanceOf_2 : decode cX6_distanceOf 2 = .ok (.if_icmp .ge 7, 3) := by decide +kernel
theorem dX6_distanceOf_5 : decode cX6_distanceOf 5 = .ok (.iload_n 1, 1) := by decide +kernel
theorem dX6_distanceOf_6 : decode cX6_distanceOf 6 = .ok (.goto 4, 3) := by decide +kernel
theorem dX6_distanceOf_9 : decode cX6_distanceOf 9 = .ok (.iload_n 2, 1) := by decide +kernel
theorem dX6_distanceOf_10 : decode cX6_distanceOf 10 = .ok (.istore_n 3, 1) := by decide +kernel
theorem dX6_distanceOf_11 : decode cX6_distanceOf 11 = .ok (.iload_n 1, 1) := by decide +kernel
theorem dX6_distanceOf_12 : decode cX6_distanceOf 12 = .ok (.iload_n 2, 1) := by decide +kernel
theorem dX6_distanceOf_13 : decode cX6_distanceOf 13 = .ok (.if_icmp .ge 7, 3) := by decide +kernel
theorem dX6_distanceOf_16 : decode cX6_distanceOf 16 = .ok (.iload_n 2, 1) := by decide +kernel
theorem dX6_distanceOf_17 : decode cX6_distanceOf 17 = .ok (.goto 4, 3) := by decide +kernel
theorem dX6_distanceOf_20 : decode cX6_distanceOf 20 = .ok (.iload_n 1, 1) := by decide +kernel
theorem dX6_distanceOf_21 : decode cX6_distanceOf 21 = .ok (.istore 4, 2) := by decide +kernel
theorem dX6_distanceOf_23 : decode cX6_distanceOf 23 = .ok (.fconst 0, 1) := by decide +kernel
theorem dX6_distanceOf_24 : decode cX6_distanceOf 24 = .ok (.fstore 5, 2) := by decide +kernel
theorem dX6_distanceOf_26 : decode cX6_distanceOf 26 = .ok (.fconst 0, 1) := by decide +kernel
theorem dX6_distanceOf_27 : decode cX6_distanceOf 27 = .ok (.fstore 6, 2) := by decide +kernel
theorem dX6_distanceOf_29 : decode cX6_distanceOf 29 = .ok (.aload_n 0, 1) := by decide +kernel
theorem dX6_distanceOf_30 : decode cX6_distanceOf 30 = .ok (.iconst 0, 1) := by decide +kernel
theorem dX6_distanceOf_31 : decode cX6_distanceOf 31 = .ok (.putfield 102, 3) := by decide +kernel
theorem dX6_distanceOf_34 : decode cX6_distanceOf 34 = .ok (.iconst 0, 1) := by decide +kernel
theorem dX6_distanceOf_35 : decode cX6_distanceOf 35 = .ok (.istore 7, 2) := by decide +kernel
theorem dX6_distanceOf_37 : decode cX6_distanceOf 37 = .ok (.iload 7, 2) := by decide +kernel
theorem dX6_distanceOf_39 : decode cX6_distanceOf 39 = .ok (.iconst 4, 1) := by decide +kernel
theorem dX6_distanceOf_40 : decode cX6_distanceOf 40 = .ok (.if_icmp .ge 113, 3) := by decide +kernel
theorem dX6_distanceOf_43 : decode cX6_distanceOf 43 = .ok (.aload_n 0, 1) := by decide +kernel
theorem dX6_distanceOf_44 : decode cX6_distanceOf 44 = .ok (.getfield 16, 3) := by decide +kernel
theorem dX6_distanceOf_47 : decode cX6_distanceOf 47 = .ok (.iconst 4, 1) := by decide +kernel
theorem dX6_distanceOf_48 : decode cX6_distanceOf 48 = .ok (.iload_n 3, 1) := by decide +kernel
theorem dX6_distanceOf_49 : decode cX6_distanceOf 49 = .ok (.imul, 1) := by decide +kernel
theorem dX6_distanceOf_50 : decode cX6_distanceOf 50 = .ok (.iload 7, 2) := by decide +kernel
theorem dX6_distanceOf_52 : decode cX6_distanceOf 52 = .ok (.iadd, 1) := by decide +kernel
theorem dX6_distanceOf_53 : decode cX6_distanceOf 53 = .ok (.iaload, 1) := by decide +kernel
theorem dX6_distanceOf_54 : decode cX6_distanceOf 54 = .ok (.istore 8, 2) := by decide +kernel
theorem dX6_distanceOf_56 : decode cX6_distanceOf 56 = .ok (.aload_n 0, 1) := by decide +kernel
theorem dX6_distanceOf_57 : decode cX6_distanceOf 57 = .ok (.getfield 16, 3) := by decide +kernel
theorem dX6_distanceOf_60 : decode cX6_distanceOf 60 = .ok (.iconst 4, 1) := by decide +kernel
theorem dX6_distanceOf_61 : decode cX6_distanceOf 61 = .ok (.iload 4, 2) := by decide +kernel
theorem dX6_distanceOf_63 : decode cX6_distanceOf 63 = .ok (.imul, 1) := by decide +kernel
theorem dX6_distanceOf_64 : decode cX6_distanceOf 64 = .ok (.iload 7, 2) := by decide +kernel
theorem dX6_distanceOf_66 : decode cX6_distanceOf 66 = .ok (.iadd, 1) := by decide +kernel
theorem dX6_distanceOf_67 : decode cX6_distanceOf 67 = .ok (.iaload, 1) := by decide +kernel
theorem dX6_distanceOf_68 : decode cX6_distanceOf 68 = .ok (.istore 9, 2) := by decide +kernel
theorem dX6_distanceOf_70 : decode cX6_distanceOf 70 = .ok (.iload 8, 2) := by decide +kernel
theorem dX6_distanceOf_72 : decode cX6_distanceOf 72 = .ok (.invokestatic 106, 3) := by decide +kernel
theorem dX6_distanceOf_75 : decode cX6_distanceOf 75 = .ok (.ifCond .eq 72, 3) := by decide +kernel
theorem dX6_distanceOf_78 : decode cX6_distanceOf 78 = .ok (.iload 9, 2) := by decide +kernel
theorem dX6_distanceOf_80 : decode cX6_distanceOf 80 = .ok (.invokestatic 106, 3) := by decide +kernel
theorem dX6_distanceOf_83 : decode cX6_distanceOf 83 = .ok (.ifCond .eq 64, 3) := by decide +kernel
theorem dX6_distanceOf_86 : decode cX6_distanceOf 86 = .ok (.aload_n 0, 1) := by decide +kernel
theorem dX6_distanceOf_87 : decode cX6_distanceOf 87 = .ok (.getfield 13, 3) := by decide +kernel
theorem dX6_distanceOf_90 : decode cX6_distanceOf 90 = .ok (.iload 7, 2) := by decide +kernel
theorem dX6_distanceOf_92 : decode cX6_distanceOf 92 = .ok (.iaload, 1) := by decide +kernel
theorem dX6_distanceOf_93 : decode cX6_distanceOf 93 = .ok (.ifCond .le 54, 3) := by decide +kernel
theorem dX6_distanceOf_96 : decode cX6_distanceOf 96 = .ok (.aload_n 0, 1) := by decide +kernel
theorem dX6_distanceOf_97 : decode cX6_distanceOf 97 = .ok (.getfield 13, 3) := by decide +kernel
theorem dX6_distanceOf_100 : decode cX6_distanceOf 100 = .ok (.iload 7, 2) := by decide +kernel
theorem dX6_distanceOf_102 : decode cX6_distanceOf 102 = .ok (.iaload, 1) := by decide +kernel
theorem dX6_distanceOf_103 : decode cX6_distanceOf 103 = .ok (.i2f, 1) := by decide +kernel
theorem dX6_distanceOf_104 : decode cX6_distanceOf 104 = .ok (.ldc 109, 2) := by decide +kernel
theorem dX6_distanceOf_106 : decode cX6_distanceOf 106 = .ok (.fdiv, 1) := by decide +kernel
theorem dX6_distanceOf_107 : decode cX6_distanceOf 107 = .ok (.fstore 10, 2) := by decide +kernel
theorem dX6_distanceOf_109 : decode cX6_distanceOf 109 = .ok (.iload 8, 2) := by decide +kernel
theorem dX6_distanceOf_111 : decode cX6_distanceOf 111 = .ok (.invokestatic 110, 3) := by decide +kernel
theorem dX6_distanceOf_114 : decode cX6_distanceOf 114 = .ok (.iload 9, 2) := by decide +kernel
theorem dX6_distanceOf_116 : decode cX6_distanceOf 116 = .ok (.invokestatic 110, 3) := by decide +kernel
theorem dX6_distanceOf_119 : decode cX6_distanceOf 119 = .ok (.fsub, 1) := by decide +kernel
theorem dX6_distanceOf_120 : decode cX6_distanceOf 120 = .ok (.fstore 11, 2) := by decide +kernel
theorem dX6_distanceOf_122 : decode cX6_distanceOf 122 = .ok (.fload 5, 2) := by decide +kernel
theorem dX6_distanceOf_124 : decode cX6_distanceOf 124 = .ok (.fload 10, 2) := by decide +kernel
theorem dX6_distanceOf_126 : decode cX6_distanceOf 126 = .ok (.fload 11, 2) := by decide +kernel
theorem dX6_distanceOf_128 : decode cX6_distanceOf 128 = .ok (.fload 11, 2) := by decide +kernel
theorem dX6_distanceOf_130 : decode cX6_distanceOf 130 = .ok (.fmul, 1) := by decide +kernel
theorem dX6_distanceOf_131 : decode cX6_distanceOf 131 = .ok (.fmul, 1) := by decide +kernel
theorem dX6_distanceOf_132 : decode cX6_distanceOf 132 = .ok (.fadd, 1) := by decide +kernel
theorem dX6_distanceOf_133 : decode cX6_distanceOf 133 = .ok (.fstore 5, 2) := by decide +kernel
theorem dX6_distanceOf_135 : decode cX6_distanceOf 135 = .ok (.fload 6, 2) := by decide +kernel
theorem dX6_distanceOf_137 : decode cX6_distanceOf 137 = .ok (.fload 10, 2) := by decide +kernel
theorem dX6_distanceOf_139 : decode cX6_distanceOf 139 = .ok (.fadd, 1) := by decide +kernel
theorem dX6_distanceOf_140 : decode cX6_distanceOf 140 = .ok (.fstore 6, 2) := by decide +kernel
theorem dX6_distanceOf_142 : decode cX6_distanceOf 142 = .ok (.aload_n 0, 1) := by decide +kernel
theorem dX6_distanceOf_143 : decode cX6_distanceOf 143 = .ok (.iconst 1, 1) := by decide +kernel
theorem dX6_distanceOf_144 : decode cX6_distanceOf 144 = .ok (.putfield 102, 3) := by decide +kernel
theorem dX6_distanceOf_147 : decode cX6_distanceOf 147 = .ok (.iinc 7 1, 3) := by decide +kernel
theorem dX6_distanceOf_150 : decode cX6_distanceOf 150 = .ok (.goto (-113), 3) := by decide +kernel
theorem dX6_distanceOf_153 : decode cX6_distanceOf 153 = .ok (.aload_n 0, 1) := by decide +kernel
theorem dX6_distanceOf_154 : decode cX6_distanceOf 154 = .ok (.getfield 102, 3) := by decide +kernel
theorem dX6_distanceOf_157 : decode cX6_distanceOf 157 = .ok (.ifCond .eq 11, 3) := by decide +kernel
theorem dX6_distanceOf_160 : decode cX6_distanceOf 160 = .ok (.fload 5, 2) := by decide +kernel
theorem dX6_distanceOf_162 : decode cX6_distanceOf 162 = .ok (.fload 6, 2) := by decide +kernel
theorem dX6_distanceOf_164 : decode cX6_distanceOf 164 = .ok (.fdiv, 1) := by decide +kernel
theorem dX6_distanceOf_165 : decode cX6_distanceOf 165 = .ok (.goto 4, 3) := by decide +kernel
theorem dX6_distanceOf_168 : decode cX6_distanceOf 168 = .ok (.fconst 0, 1) := by decide +kernel
theorem dX6_distanceOf_169 : decode cX6_distanceOf 169 = .ok (.freturn, 1) := by decide +kernel
set_option maxRecDepth 20000 in
theorem ggX6_distance_X6_isDay : GoodIn wsX6_distance wsX6_isDay := goodIn_r _ [6, 7, 8, 9, 5, 10, 42, 43, 44, 45, 46, 47, 48, 49, 50, 51, 52, 53, 54, 55, 56, 57, 58, 59, 60, 61, 62] (by decide +kernel) (by decide +kernel)
set_option maxRecDepth 20000 in
theorem gX6_distance_X6_isDay : GoodIn wsX6_distance (wsV RX6 73 RX6 yX6_isDay wsX6_isDay) := goodIn_app (goodIn_of _ (by decide +kernel)) ggX6_distance_X6_isDay
set_option maxRecDepth 20000 in
theorem ggX6_distance_X6_bad : GoodIn wsX6_distance wsX6_bad := goodIn_r _ [14, 15, 42, 43, 44, 45, 46, 47, 48, 49, 50, 51, 52, 53, 54, 55, 56, 57, 58, 59, 60, 61, 62] (by decide +kernel) (by decide +kernel)
set_option maxRecDepth 20000 in
theorem gX6_distance_X6_bad : GoodIn wsX6_distance (wsV RX6 59 RX6 yX6_bad wsX6_bad) := goodIn_app (goodIn_of _ (by decide +kernel)) ggX6_distance_X6_bad
set_option maxRecDepth 20000 in
theorem ggX6_distance_X6_distanceOf : GoodIn wsX6_distance wsX6_distanceOf := goodIn_r _ [19, 1, 20, 21, 22, 23, 24, 5, 25, 26, 27, 28, 29, 42, 43, 44, 45, 46, 47, 48, 49, 50, 51, 52, 53, 54, 55, 56, 57, 58, 59, 60, 61, 62] (by decide +kernel) (by decide +kernel)
set_option maxRecDepth 20000 in
theorem gX6_distance_X6_distanceOf : GoodIn wsX6_distance (wsV RX6 114 RX6 yX6_distanceOf wsX6_distanceOf) := goodIn_app (goodIn_of _ (by decide +kernel)) ggX6_distance_X6_distanceOf
set_option maxRecDepth 20000 in
theorem ggX6_distance_Jxf58ca_floatToIntBits_5c35a : GoodIn wsX6_distance wsJxf58ca_floatToIntBits_5c35a := goodIn_r _ [33, 34, 35, 36, 37, 38, 39, 40, 32, 41] (by decide +kernel) (by decide +kernel)
set_option maxRecDepth 20000 in
theorem gX6_distance_Jxf58ca_floatToIntBits_5c35a : GoodIn wsX6_distance (va_wsS RX6 118 yJxf58ca_floatToIntBits_5c35a wsJxf58ca_floatToIntBits_5c35a) := goodIn_app (goodIn_of _ (by decide +kernel)) ggX6_distance_Jxf58ca_floatToIntBits_5c35a
theorem dX6_distance_0 : decode cX6_distance 0 = .ok (.aload_n 0, 1) := by decide +kernel
theorem dX6_distance_1 : decode cX6_distance 1 = .ok (.iload_n 1, 1) := by decide +kernel
theorem dX6_distance_2 : decode cX6_distance 2 = .ok (.invokevirtual 73, 3) := by decide +kernel
theorem dX6_distance_5 : decode cX6_distance 5 = .ok (.ifCond .eq 16, 3) := by decide +kernel
theorem dX6_distance_8 : decode cX6_distance 8 = .ok (.aload_n 0, 1) := by decide +kernel
theorem dX6_distance_9 : decode cX6_distance 9 = .ok (.iload_n 2, 1) := by decide +kernel
theorem dX6_distance_10 : decode cX6_distance 10 = .ok (.invokevirtual 73, 3) := by decide +kernel
theorem dX6_distance_13 : decode cX6_distance 13 = .ok (.ifCond .eq 8, 3) := by decide +kernel
theorem dX6_distance_16 : decode cX6_distance 16 = .ok (.iload_n 1, 1) := by decide +kernel
theorem dX6_distance_17 : decode cX6_distance 17 = .ok (.iload_n 2, 1) := by decide +kernel
theorem dX6_distance_18 : decode cX6_distance 18 = .ok (.if_icmp .ne 8, 3) := by decide +kernel
theorem dX6_distance_21 : decode cX6_distance 21 = .ok (.aload_n 0, 1) := by decide +kernel
theorem dX6_distance_22 : decode cX6_distance 22 = .ok (.invokevirtual 59, 3) := by decide +kernel
theorem dX6_distance_25 : decode cX6_distance 25 = .ok (.ireturn, 1) := by decide +kernel
theorem dX6_distance_26 : decode cX6_distance 26 = .ok (.aload_n 0, 1) := by decide +kernel
theorem dX6_distance_27 : decode cX6_distance 27 = .ok (.iload_n 1, 1) := by decide +kernel
theorem dX6_distance_28 : decode cX6_distance 28 = .ok (.iload_n 2, 1) := by decide +kernel
theorem dX6_distance_29 : decode cX6_distance 29 = .ok (.invokevirtual 114, 3) := by decide +kernel
theorem dX6_distance_32 : decode cX6_distance 32 = .ok (.fstore_n 3, 1) := by decide +kernel
theorem dX6_distance_33 : decode cX6_distance 33 = .ok (.aload_n 0, 1) := by decide +kernel
theorem dX6_distance_34 : decode cX6_distance 34 = .ok (.getfield 102, 3) := by decide +kernel
theorem dX6_distance_37 : decode cX6_distance 37 = .ok (.ifCond .eq 10, 3) := by decide +kernel
theorem dX6_distance_40 : decode cX6_distance 40 = .ok (.fload_n 3, 1) := by decide +kernel
theorem dX6_distance_41 : decode cX6_distance 41 = .ok (.invokestatic 118, 3) := by decide +kernel
theorem dX6_distance_44 : decode cX6_distance 44 = .ok (.goto 4, 3) := by decide +kernel
theorem dX6_distance_47 : decode cX6_distance 47 = .ok (.iconst (-1), 1) := by decide +kernel
theorem dX6_distance_48 : decode cX6_distance 48 = .ok (.ireturn, 1) := by decide +kernel
theorem dX6_mayBeLike_0 : decode cX6_mayBeLike 0 = .ok (.iload_n 1, 1) := by decide +kernel
theorem dX6_mayBeLike_1 : decode cX6_mayBeLike 1 = .ok (.iload_n 2, 1) := by decide +kernel
theorem dX6_mayBeLike_2 : decode cX6_mayBeLike 2 = .ok (.if_icmp .ge 9, 3) := by decide +kernel
theorem dX6_mayBeLike_5 : decode cX6_mayBeLike 5 = .ok (.iload_n 2, 1) := by decide +kernel
theorem dX6_mayBeLike_6 : decode cX6_mayBeLike 6 = .ok (.iload_n 1, 1) := by decide +kernel
theorem dX6_mayBeLike_7 : decode cX6_mayBeLike 7 = .ok (.isub, 1) := by decide +kernel
theorem dX6_mayBeLike_8 : decode cX6_mayBeLike 8 = .ok (.goto 6, 3) := by decide +kernel
theorem dX6_mayBeLike_11 : decode cX6_mayBeLike 11 = .ok (.iload_n 1, 1) := by decide +kernel
theorem dX6_mayBeLike_12 : decode cX6_mayBeLike 12 = .ok (.iload_n 2, 1) := by decide +kernel
theorem dX6_mayBeLike_13 : decode cX6_mayBeLike 13 = .ok (.isub, 1) := by decide +kernel
theorem dX6_mayBeLike_14 : decode cX6_mayBeLike 14 = .ok (.istore_n 3, 1) := by decide +kernel
theorem dX6_mayBeLike_15 : decode cX6_mayBeLike 15 = .ok (.iload_n 2, 1) := by decide +kernel
theorem dX6_mayBeLike_16 : decode cX6_mayBeLike 16 = .ok (.iload_n 1, 1) := by decide +kernel
theorem dX6_mayBeLike_17 : decode cX6_mayBeLike 17 = .ok (.if_icmp .eq 34, 3) := by decide +kernel
theorem dX6_mayBeLike_20 : decode cX6_mayBeLike 20 = .ok (.iload_n 3, 1) := by decide +kernel
theorem dX6_mayBeLike_21 : decode cX6_mayBeLike 21 = .ok (.aload_n 0, 1) := by decide +kernel
theorem dX6_mayBeLike_22 : decode cX6_mayBeLike 22 = .ok (.getfield 13, 3) := by decide +kernel
theorem dX6_mayBeLike_25 : decode cX6_mayBeLike 25 = .ok (.iconst 4, 1) := by decide +kernel
theorem dX6_mayBeLike_26 : decode cX6_mayBeLike 26 = .ok (.iaload, 1) := by decide +kernel
theorem dX6_mayBeLike_27 : decode cX6_mayBeLike 27 = .ok (.if_icmp .le 24, 3) := by decide +kernel
theorem dX6_mayBeLike_30 : decode cX6_mayBeLike 30 = .ok (.iload_n 2, 1) := by decide +kernel
theorem dX6_mayBeLike_31 : decode cX6_mayBeLike 31 = .ok (.iconst 1, 1) := by decide +kernel
theorem dX6_mayBeLike_32 : decode cX6_mayBeLike 32 = .ok (.iadd, 1) := by decide +kernel
theorem dX6_mayBeLike_33 : decode cX6_mayBeLike 33 = .ok (.aload_n 0, 1) := by decide +kernel
theorem dX6_mayBeLike_34 : decode cX6_mayBeLike 34 = .ok (.getfield 48, 3) := by decide +kernel
theorem dX6_mayBeLike_37 : decode cX6_mayBeLike 37 = .ok (.if_icmp .ge 14, 3) := by decide +kernel
theorem dX6_mayBeLike_40 : decode cX6_mayBeLike 40 = .ok (.iload_n 2, 1) := by decide +kernel
theorem dX6_mayBeLike_41 : decode cX6_mayBeLike 41 = .ok (.iconst 1, 1) := by decide +kernel
theorem dX6_mayBeLike_42 : decode cX6_mayBeLike 42 = .ok (.iadd, 1) := by decide +kernel
theorem dX6_mayBeLike_43 : decode cX6_mayBeLike 43 = .ok (.iload_n 1, 1) := by decide +kernel
theorem dX6_mayBeLike_44 : decode cX6_mayBeLike 44 = .ok (.if_icmp .eq 7, 3) := by decide +kernel
theorem dX6_mayBeLike_47 : decode cX6_mayBeLike 47 = .ok (.iconst 1, 1) := by decide +kernel
theorem dX6_mayBeLike_48 : decode cX6_mayBeLike 48 = .ok (.goto 4, 3) := by decide +kernel
theorem dX6_mayBeLike_51 : decode cX6_mayBeLike 51 = .ok (.iconst 0, 1) := by decide +kernel
theorem dX6_mayBeLike_52 : decode cX6_mayBeLike 52 = .ok (.ireturn, 1) := by decide +kernel
set_option maxRecDepth 20000 in
theorem ggX6_setLike_X6_mayBeLike : GoodIn wsX6_setLike wsX6_mayBeLike := goodIn_r _ [10, 11, 2, 25, 26, 27, 28, 29, 30, 31, 32, 33, 34, 35, 36, 37, 38, 39, 40, 41, 42, 43, 44, 45] (by decide +kernel) (by decide +kernel)
set_option maxRecDepth 20000 in
theorem gX6_setLike_X6_mayBeLike : GoodIn wsX6_setLike (wsV RX6 127 RX6 yX6_mayBeLike wsX6_mayBeLike) := goodIn_app (goodIn_of _ (by decide +kernel)) ggX6_setLike_X6_mayBeLike
set_option maxRecDepth 20000 in
theorem ggX6_setLike_X6_distanceOf : GoodIn wsX6_setLike wsX6_distanceOf := goodIn_r _ [15, 3, 16, 11, 17, 18, 19, 9, 20, 21, 22, 23, 24, 25, 26, 27, 28, 29, 30, 31, 32, 33, 34, 35, 36, 37, 38, 39, 40, 41, 42, 43, 44, 45] (by decide +kernel) (by decide +kernel)
set_option maxRecDepth 20000 in
theorem gX6_setLike_X6_distanceOf : GoodIn wsX6_setLike (wsV RX6 114 RX6 yX6_distanceOf wsX6_distanceOf) := goodIn_app (goodIn_of _ (by decide +kernel)) ggX6_setLike_X6_distanceOf
theorem dX6_setLike_0 : decode cX6_setLike 0 = .ok (.aload_n 0, 1) := by decide +kernel
theorem dX6_setLike_1 : decode cX6_setLike 1 = .ok (.iconst 0, 1) := by decide +kernel
theorem dX6_setLike_2 : decode cX6_setLike 2 = .ok (.putfield 124, 3) := by decide +kernel
theorem dX6_setLike_5 : decode cX6_setLike 5 = .ok (.iconst 0, 1) := by decide +kernel
theorem dX6_setLike_6 : decode cX6_setLike 6 = .ok (.istore_n 2, 1) := by decide +kernel
theorem dX6_setLike_7 : decode cX6_setLike 7 = .ok (.iload_n 2, 1) := by decide +kernel
theorem dX6_setLike_8 : decode cX6_setLike 8 = .ok (.aload_n 0, 1) := by decide +kernel
theorem dX6_setLike_9 : decode cX6_setLike 9 = .ok (.getfield 48, 3) := by decide +kernel
theorem dX6_setLike_12 : decode cX6_setLike 12 = .ok (.if_icmp .ge 121, 3) := by decide +kernel
theorem dX6_setLike_15 : decode cX6_setLike 15 = .ok (.aload_n 0, 1) := by decide +kernel
theorem dX6_setLike_16 : decode cX6_setLike 16 = .ok (.iload_n 1, 1) := by decide +kernel
theorem dX6_setLike_17 : decode cX6_setLike 17 = .ok (.iload_n 2, 1) := by decide +kernel
theorem dX6_setLike_18 : decode cX6_setLike 18 = .ok (.invokevirtual 127, 3) := by decide +kernel
theorem dX6_setLike_21 : decode cX6_setLike 21 = .ok (.ifCond .eq 106, 3) := by decide +kernel
theorem dX6_setLike_24 : decode cX6_setLike 24 = .ok (.aload_n 0, 1) := by decide +kernel
theorem dX6_setLike_25 : decode cX6_setLike 25 = .ok (.iload_n 1, 1) := by decide +kernel
theorem dX6_setLike_26 : decode cX6_setLike 26 = .ok (.iload_n 2, 1) := by decide +kernel
theorem dX6_setLike_27 : decode cX6_setLike 27 = .ok (.invokevirtual 114, 3) := by decide +kernel
theorem dX6_setLike_30 : decode cX6_setLike 30 = .ok (.fstore_n 3, 1) := by decide +kernel
theorem dX6_setLike_31 : decode cX6_setLike 31 = .ok (.aload_n 0, 1) := by decide +kernel
theorem dX6_setLike_32 : decode cX6_setLike 32 = .ok (.getfield 102, 3) := by decide +kernel
theorem dX6_setLike_35 : decode cX6_setLike 35 = .ok (.ifCond .eq 92, 3) := by decide +kernel
theorem dX6_setLike_38 : decode cX6_setLike 38 = .ok (.aload_n 0, 1) := by decide +kernel
theorem dX6_setLike_39 : decode cX6_setLike 39 = .ok (.getfield 124, 3) := by decide +kernel
theorem dX6_setLike_42 : decode cX6_setLike 42 = .ok (.istore 4, 2) := by decide +kernel
theorem dX6_setLike_44 : decode cX6_setLike 44 = .ok (.iload 4, 2) := by decide +kernel
theorem dX6_setLike_46 : decode cX6_setLike 46 = .ok (.ifCond .le 55, 3) := by decide +kernel
theorem dX6_setLike_49 : decode cX6_setLike 49 = .ok (.aload_n 0, 1) := by decide +kernel
theorem dX6_setLike_50 : decode cX6_setLike 50 = .ok (.getfield 25, 3) := by decide +kernel
theorem dX6_setLike_53 : decode cX6_setLike 53 = .ok (.iload 4, 2) := by decide +kernel
theorem dX6_setLike_55 : decode cX6_setLike 55 = .ok (.iconst 1, 1) := by decide +kernel
theorem dX6_setLike_56 : decode cX6_setLike 56 = .ok (.isub, 1) := by decide +kernel
theorem dX6_setLike_57 : decode cX6_setLike 57 = .ok (.faload, 1) := by decide +kernel
theorem dX6_setLike_58 : decode cX6_setLike 58 = .ok (.fload_n 3, 1) := by decide +kernel
theorem dX6_setLike_59 : decode cX6_setLike 59 = .ok (.fcmp .l, 1) := by decide +kernel
theorem dX6_setLike_60 : decode cX6_setLike 60 = .ok (.ifCond .le 41, 3) := by decide +kernel
theorem dX6_setLike_63 : decode cX6_setLike 63 = .ok (.aload_n 0, 1) := by decide +kernel
theorem dX6_setLike_64 : decode cX6_setLike 64 = .ok (.getfield 22, 3) := by decide +kernel
theorem dX6_setLike_67 : decode cX6_setLike 67 = .ok (.iload 4, 2) := by decide +kernel
theorem dX6_setLike_69 : decode cX6_setLike 69 = .ok (.aload_n 0, 1) := by decide +kernel
theorem dX6_setLike_70 : decode cX6_setLike 70 = .ok (.getfield 22, 3) := by decide +kernel
theorem dX6_setLike_73 : decode cX6_setLike 73 = .ok (.iload 4, 2) := by decide +kernel
theorem dX6_setLike_75 : decode cX6_setLike 75 = .ok (.iconst 1, 1) := by decide +kernel
theorem dX6_setLike_76 : decode cX6_setLike 76 = .ok (.isub, 1) := by decide +kernel
theorem dX6_setLike_77 : decode cX6_setLike 77 = .ok (.iaload, 1) := by decide +kernel
theorem dX6_setLike_78 : decode cX6_setLike 78 = .ok (.iastore, 1) := by decide +kernel
theorem dX6_setLike_79 : decode cX6_setLike 79 = .ok (.aload_n 0, 1) := by decide +kernel
theorem dX6_setLike_80 : decode cX6_setLike 80 = .ok (.getfield 25, 3) := by decide +kernel
theorem dX6_setLike_83 : decode cX6_setLike 83 = .ok (.iload 4, 2) := by decide +kernel
theorem dX6_setLike_85 : decode cX6_setLike 85 = .ok (.aload_n 0, 1) := by decide +kernel
theorem dX6_setLike_86 : decode cX6_setLike 86 = .ok (.getfield 25, 3) := by decide +kernel
theorem dX6_setLike_89 : decode cX6_setLike 89 = .ok (.iload 4, 2) := by decide +kernel
theorem dX6_setLike_91 : decode cX6_setLike 91 = .ok (.iconst 1, 1) := by decide +kernel
theorem dX6_setLike_92 : decode cX6_setLike 92 = .ok (.isub, 1) := by decide +kernel
theorem dX6_setLike_93 : decode cX6_setLike 93 = .ok (.faload, 1) := by decide +kernel
theorem dX6_setLike_94 : decode cX6_setLike 94 = .ok (.fastore, 1) := by decide +kernel
theorem dX6_setLike_95 : decode cX6_setLike 95 = .ok (.iinc 4 (-1), 3) := by decide +kernel
theorem dX6_setLike_98 : decode cX6_setLike 98 = .ok (.goto (-54), 3) := by decide +kernel
theorem dX6_setLike_101 : decode cX6_setLike 101 = .ok (.aload_n 0, 1) := by decide +kernel
theorem dX6_setLike_102 : decode cX6_setLike 102 = .ok (.getfield 22, 3) := by decide +kernel
theorem dX6_setLike_105 : decode cX6_setLike 105 = .ok (.iload 4, 2) := by decide +kernel
theorem dX6_setLike_107 : decode cX6_setLike 107 = .ok (.iload_n 2, 1) := by decide +kernel
theorem dX6_setLike_108 : decode cX6_setLike 108 = .ok (.iastore, 1) := by decide +kernel
theorem dX6_setLike_109 : decode cX6_setLike 109 = .ok (.aload_n 0, 1) := by decide +kernel
theorem dX6_setLike_110 : decode cX6_setLike 110 = .ok (.getfield 25, 3) := by decide +kernel
theorem dX6_setLike_113 : decode cX6_setLike 113 = .ok (.iload 4, 2) := by decide +kernel
theorem dX6_setLike_115 : decode cX6_setLike 115 = .ok (.fload_n 3, 1) := by decide +kernel
theorem dX6_setLike_116 : decode cX6_setLike 116 = .ok (.fastore, 1) := by decide +kernel
theorem dX6_setLike_117 : decode cX6_setLike 117 = .ok (.aload_n 0, 1) := by decide +kernel
theorem dX6_setLike_118 : decode cX6_setLike 118 = .ok (.dup, 1) := by decide +kernel
theorem dX6_setLike_119 : decode cX6_setLike 119 = .ok (.getfield 124, 3) := by decide +kernel
theorem dX6_setLike_122 : decode cX6_setLike 122 = .ok (.iconst 1, 1) := by decide +kernel
theorem dX6_setLike_123 : decode cX6_setLike 123 = .ok (.iadd, 1) := by decide +kernel
theorem dX6_setLike_124 : decode cX6_setLike 124 = .ok (.putfield 124, 3) := by decide +kernel
theorem dX6_setLike_127 : decode cX6_setLike 127 = .ok (.iinc 2 1, 3) := by decide +kernel
theorem dX6_setLike_130 : decode cX6_setLike 130 = .ok (.goto (-123), 3) := by decide +kernel
theorem dX6_setLike_133 : decode cX6_setLike 133 = .ok (.return_, 1) := by decide +kernel
set_option maxRecDepth 20000 in
theorem ggX6_setNearest_X6_setLike : GoodIn wsX6_setNearest wsX6_setLike := goodIn_r _ [7, 1, 8, 9, 10, 11, 12, 13, 14, 6, 15, 2, 16, 17, 18, 19, 20, 21, 22, 23, 24, 25, 26, 27, 28, 29, 30, 31, 32, 33, 34, 35, 36, 37, 38, 39, 40, 41, 42, 43, 44, 45, 46, 47, 48, 49] (by decide +kernel) (by decide +kernel)
set_option maxRecDepth 20000 in
theorem gX6_setNearest_X6_setLike : GoodIn wsX6_setNearest (wsV RX6 131 RX6 yX6_setLike wsX6_setLike) := goodIn_app (goodIn_of _ (by decide +kernel)) ggX6_setNearest_X6_setLike
theorem dX6_setNearest_0 : decode cX6_setNearest 0 = .ok (.aload_n 0, 1) := by decide +kernel
theorem dX6_setNearest_1 : decode cX6_setNearest 1 = .ok (.iload_n 1, 1) := by decide +kernel
theorem dX6_setNearest_2 : decode cX6_setNearest 2 = .ok (.invokevirtual 131, 3) := by decide +kernel
theorem dX6_setNearest_5 : decode cX6_setNearest 5 = .ok (.aload_n 0, 1) := by decide +kernel
theorem dX6_setNearest_6 : decode cX6_setNearest 6 = .ok (.aload_n 0, 1) := by decide +kernel
theorem dX6_setNearest_7 : decode cX6_setNearest 7 = .ok (.getfield 124, 3) := by decide +kernel
theorem dX6_setNearest_10 : decode cX6_setNearest 10 = .ok (.aload_n 0, 1) := by decide +kernel
theorem dX6_setNearest_11 : decode cX6_setNearest 11 = .ok (.getfield 13, 3) := by decide +kernel
theorem dX6_setNearest_14 : decode cX6_setNearest 14 = .ok (.iconst 5, 1) := by decide +kernel
theorem dX6_setNearest_15 : decode cX6_setNearest 15 = .ok (.iaload, 1) := by decide +kernel
theorem dX6_setNearest_16 : decode cX6_setNearest 16 = .ok (.if_icmp .ge 10, 3) := by decide +kernel
theorem dX6_setNearest_19 : decode cX6_setNearest 19 = .ok (.aload_n 0, 1) := by decide +kernel
theorem dX6_setNearest_20 : decode cX6_setNearest 20 = .ok (.getfield 124, 3) := by decide +kernel
theorem dX6_setNearest_23 : decode cX6_setNearest 23 = .ok (.goto 9, 3) := by decide +kernel
theorem dX6_setNearest_26 : decode cX6_setNearest 26 = .ok (.aload_n 0, 1) := by decide +kernel
theorem dX6_setNearest_27 : decode cX6_setNearest 27 = .ok (.getfield 13, 3) := by decide +kernel
theorem dX6_setNearest_30 : decode cX6_setNearest 30 = .ok (.iconst 5, 1) := by decide +kernel
theorem dX6_setNearest_31 : decode cX6_setNearest 31 = .ok (.iaload, 1) := by decide +kernel
theorem dX6_setNearest_32 : decode cX6_setNearest 32 = .ok (.putfield 124, 3) := by decide +kernel
theorem dX6_setNearest_35 : decode cX6_setNearest 35 = .ok (.return_, 1) := by decide +kernel
set_option maxRecDepth 20000 in
theorem ggX6_nearest_X6_isDay : GoodIn wsX6_nearest wsX6_isDay := goodIn_r _ [8, 9, 10, 11, 7, 12, 57, 58, 59, 60, 61, 62, 63, 64, 65, 66, 67, 68, 69, 70, 71, 72, 73, 74, 75, 76, 77] (by decide +kernel) (by decide +kernel)
set_option maxRecDepth 20000 in
theorem gX6_nearest_X6_isDay : GoodIn wsX6_nearest (wsV RX6 73 RX6 yX6_isDay wsX6_isDay) := goodIn_app (goodIn_of _ (by decide +kernel)) ggX6_nearest_X6_isDay
set_option maxRecDepth 20000 in
theorem ggX6_nearest_X6_in : GoodIn wsX6_nearest wsX6_in := goodIn_r _ [12] (by decide +kernel) (by decide +kernel)
set_option maxRecDepth 20000 in
theorem gX6_nearest_X6_in : GoodIn wsX6_nearest (va_wsS RX6 44 yX6_in wsX6_in) := goodIn_app (goodIn_of _ (by decide +kernel)) ggX6_nearest_X6_in
set_option maxRecDepth 20000 in
theorem ggX6_nearest_X6_bad : GoodIn wsX6_nearest wsX6_bad := goodIn_r _ [16, 17, 57, 58, 59, 60, 61, 62, 63, 64, 65, 66, 67, 68, 69, 70, 71, 72, 73, 74, 75, 76, 77] (by decide +kernel) (by decide +kernel)
set_option maxRecDepth 20000 in
theorem gX6_nearest_X6_bad : GoodIn wsX6_nearest (wsV RX6 59 RX6 yX6_bad wsX6_bad) := goodIn_app (goodIn_of _ (by decide +kernel)) ggX6_nearest_X6_bad
set_option maxRecDepth 20000 in
theorem ggX6_nearest_X6_setNearest : GoodIn wsX6_nearest wsX6_setNearest := goodIn_r _ [21, 1, 22, 23, 24, 25, 7, 26, 9, 27, 3, 2, 28, 29, 30, 31, 32, 33, 34, 35, 36, 37, 38, 39, 40, 41, 42, 43, 44, 57, 58, 59, 60, 61, 62, 63, 64, 65, 66, 67, 68, 69, 70, 71, 72, 73, 74, 75, 76, 77] (by decide +kernel) (by decide +kernel)
set_option maxRecDepth 20000 in
theorem gX6_nearest_X6_setNearest : GoodIn wsX6_nearest (wsV RX6 135 RX6 yX6_setNearest wsX6_setNearest) := goodIn_app (goodIn_of _ (by decide +kernel)) ggX6_nearest_X6_setNearest
set_option maxRecDepth 20000 in
theorem ggX6_nearest_Jxf58ca_floatToIntBits_5c35a : GoodIn wsX6_nearest wsJxf58ca_floatToIntBits_5c35a := goodIn_r _ [48, 49, 50, 51, 52, 53, 54, 55, 47, 56] (by decide +kernel) (by decide +kernel)
set_option maxRecDepth 20000 in
theorem gX6_nearest_Jxf58ca_floatToIntBits_5c35a : GoodIn wsX6_nearest (va_wsS RX6 118 yJxf58ca_floatToIntBits_5c35a wsJxf58ca_floatToIntBits_5c35a) := goodIn_app (goodIn_of _ (by decide +kernel)) ggX6_nearest_Jxf58ca_floatToIntBits_5c35a
theorem dX6_nearest_0 : decode cX6_nearest 0 = .ok (.aload_n 0, 1) := by decide +kernel
theorem dX6_nearest_1 : decode cX6_nearest 1 = .ok (.iload_n 1, 1) := by decide +kernel
theorem dX6_nearest_2 : decode cX6_nearest 2 = .ok (.invokevirtual 73, 3) := by decide +kernel
theorem dX6_nearest_5 : decode cX6_nearest 5 = .ok (.ifCond .eq 16, 3) := by decide +kernel
theorem dX6_nearest_8 : decode cX6_nearest 8 = .ok (.iload_n 2, 1) := by decide +kernel
theorem dX6_nearest_9 : decode cX6_nearest 9 = .ok (.ifCond .lt 12, 3) := by decide +kernel
theorem dX6_nearest_12 : decode cX6_nearest 12 = .ok (.iload_n 3, 1) := by decide +kernel
theorem dX6_nearest_13 : decode cX6_nearest 13 = .ok (.iconst 0, 1) := by decide +kernel
theorem dX6_nearest_14 : decode cX6_nearest 14 = .ok (.iconst 1, 1) := by decide +kernel
theorem dX6_nearest_15 : decode cX6_nearest 15 = .ok (.invokestatic 44, 3) := by decide +kernel
theorem dX6_nearest_18 : decode cX6_nearest 18 = .ok (.ifCond .ne 8, 3) := by decide +kernel
theorem dX6_nearest_21 : decode cX6_nearest 21 = .ok (.aload_n 0, 1) := by decide +kernel
theorem dX6_nearest_22 : decode cX6_nearest 22 = .ok (.invokevirtual 59, 3) := by decide +kernel
theorem dX6_nearest_25 : decode cX6_nearest 25 = .ok (.ireturn, 1) := by decide +kernel
theorem dX6_nearest_26 : decode cX6_nearest 26 = .ok (.aload_n 0, 1) := by decide +kernel
theorem dX6_nearest_27 : decode cX6_nearest 27 = .ok (.iload_n 1, 1) := by decide +kernel
theorem dX6_nearest_28 : decode cX6_nearest 28 = .ok (.invokevirtual 135, 3) := by decide +kernel
theorem dX6_nearest_31 : decode cX6_nearest 31 = .ok (.iload_n 2, 1) := by decide +kernel
theorem dX6_nearest_32 : decode cX6_nearest 32 = .ok (.aload_n 0, 1) := by decide +kernel
theorem dX6_nearest_33 : decode cX6_nearest 33 = .ok (.getfield 124, 3) := by decide +kernel
theorem dX6_nearest_36 : decode cX6_nearest 36 = .ok (.if_icmp .lt 5, 3) := by decide +kernel
theorem dX6_nearest_39 : decode cX6_nearest 39 = .ok (.iconst (-1), 1) := by decide +kernel
theorem dX6_nearest_40 : decode cX6_nearest 40 = .ok (.ireturn, 1) := by decide +kernel
theorem dX6_nearest_41 : decode cX6_nearest 41 = .ok (.iload_n 3, 1) := by decide +kernel
theorem dX6_nearest_42 : decode cX6_nearest 42 = .ok (.ifCond .ne 12, 3) := by decide +kernel
theorem dX6_nearest_45 : decode cX6_nearest 45 = .ok (.aload_n 0, 1) := by decide +kernel
theorem dX6_nearest_46 : decode cX6_nearest 46 = .ok (.getfield 22, 3) := by decide +kernel
theorem dX6_nearest_49 : decode cX6_nearest 49 = .ok (.iload_n 2, 1) := by decide +kernel
theorem dX6_nearest_50 : decode cX6_nearest 50 = .ok (.iaload, 1) := by decide +kernel
theorem dX6_nearest_51 : decode cX6_nearest 51 = .ok (.goto 12, 3) := by decide +kernel
theorem dX6_nearest_54 : decode cX6_nearest 54 = .ok (.aload_n 0, 1) := by decide +kernel
theorem dX6_nearest_55 : decode cX6_nearest 55 = .ok (.getfield 25, 3) := by decide +kernel
theorem dX6_nearest_58 : decode cX6_nearest 58 = .ok (.iload_n 2, 1) := by decide +kernel
theorem dX6_nearest_59 : decode cX6_nearest 59 = .ok (.faload, 1) := by decide +kernel
theorem dX6_nearest_60 : decode cX6_nearest 60 = .ok (.invokestatic 118, 3) := by decide +kernel
theorem dX6_nearest_63 : decode cX6_nearest 63 = .ok (.ireturn, 1) := by decide +kernel
set_option maxRecDepth 20000 in
theorem ggX6_likes_X6_isDay : GoodIn wsX6_likes wsX6_isDay := goodIn_r _ [6, 7, 8, 9, 5, 10, 41, 42, 43, 44, 45, 46, 47, 48, 49, 50, 51, 52, 53, 54, 55, 56, 57, 58, 59, 60, 61] (by decide +kernel) (by decide +kernel)
set_option maxRecDepth 20000 in
theorem gX6_likes_X6_isDay : GoodIn wsX6_likes (wsV RX6 73 RX6 yX6_isDay wsX6_isDay) := goodIn_app (goodIn_of _ (by decide +kernel)) ggX6_likes_X6_isDay
set_option maxRecDepth 20000 in
theorem ggX6_likes_X6_bad : GoodIn wsX6_likes wsX6_bad := goodIn_r _ [14, 15, 41, 42, 43, 44, 45, 46, 47, 48, 49, 50, 51, 52, 53, 54, 55, 56, 57, 58, 59, 60, 61] (by decide +kernel) (by decide +kernel)
set_option maxRecDepth 20000 in
theorem gX6_likes_X6_bad : GoodIn wsX6_likes (wsV RX6 59 RX6 yX6_bad wsX6_bad) := goodIn_app (goodIn_of _ (by decide +kernel)) ggX6_likes_X6_bad
set_option maxRecDepth 20000 in
theorem ggX6_likes_X6_setLike : GoodIn wsX6_likes wsX6_setLike := goodIn_r _ [19, 1, 7, 20, 21, 22, 23, 24, 25, 5, 26, 27, 28, 29, 30, 31, 32, 33, 34, 35, 36, 37, 38, 39, 40, 41, 42, 43, 44, 45, 46, 47, 48, 49, 50, 51, 52, 53, 54, 55, 56, 57, 58, 59, 60, 61] (by decide +kernel) (by decide +kernel)
set_option maxRecDepth 20000 in
theorem gX6_likes_X6_setLike : GoodIn wsX6_likes (wsV RX6 131 RX6 yX6_setLike wsX6_setLike) := goodIn_app (goodIn_of _ (by decide +kernel)) ggX6_likes_X6_setLike
theorem dX6_likes_0 : decode cX6_likes 0 = .ok (.aload_n 0, 1) := by decide +kernel
theorem dX6_likes_1 : decode cX6_likes 1 = .ok (.iload_n 1, 1) := by decide +kernel
theorem dX6_likes_2 : decode cX6_likes 2 = .ok (.invokevirtual 73, 3) := by decide +kernel
theorem dX6_likes_5 : decode cX6_likes 5 = .ok (.ifCond .ne 8, 3) := by decide +kernel
theorem dX6_likes_8 : decode cX6_likes 8 = .ok (.aload_n 0, 1) := by decide +kernel
theorem dX6_likes_9 : decode cX6_likes 9 = .ok (.invokevirtual 59, 3) := by decide +kernel
theorem dX6_likes_12 : decode cX6_likes 12 = .ok (.ireturn, 1) := by decide +kernel
theorem dX6_likes_13 : decode cX6_likes 13 = .ok (.aload_n 0, 1) := by decide +kernel
theorem dX6_likes_14 : decode cX6_likes 14 = .ok (.iload_n 1, 1) := by decide +kernel
theorem dX6_likes_15 : decode cX6_likes 15 = .ok (.invokevirtual 131, 3) := by decide +kernel
theorem dX6_likes_18 : decode cX6_likes 18 = .ok (.aload_n 0, 1) := by decide +kernel
theorem dX6_likes_19 : decode cX6_likes 19 = .ok (.getfield 124, 3) := by decide +kernel
theorem dX6_likes_22 : decode cX6_likes 22 = .ok (.ireturn, 1) := by decide +kernel
set_option maxRecDepth 20000 in
theorem ggX6_serves_X6_isDay : GoodIn wsX6_serves wsX6_isDay := goodIn_r _ [8, 1, 9, 10, 7, 11, 45, 46, 47, 48, 49, 50, 51, 52, 53, 54, 55, 56, 57, 58, 59, 60, 61, 62, 63, 64, 65] (by decide +kernel) (by decide +kernel)
set_option maxRecDepth 20000 in
theorem gX6_serves_X6_isDay : GoodIn wsX6_serves (wsV RX6 73 RX6 yX6_isDay wsX6_isDay) := goodIn_app (goodIn_of _ (by decide +kernel)) ggX6_serves_X6_isDay
set_option maxRecDepth 20000 in
theorem ggX6_serves_X6_bad : GoodIn wsX6_serves wsX6_bad := goodIn_r _ [15, 16, 45, 46, 47, 48, 49, 50, 51, 52, 53, 54, 55, 56, 57, 58, 59, 60, 61, 62, 63, 64, 65] (by decide +kernel) (by decide +kernel)
set_option maxRecDepth 20000 in
theorem gX6_serves_X6_bad : GoodIn wsX6_serves (wsV RX6 59 RX6 yX6_bad wsX6_bad) := goodIn_app (goodIn_of _ (by decide +kernel)) ggX6_serves_X6_bad
set_option maxRecDepth 20000 in
theorem ggX6_serves_X6_setNearest : GoodIn wsX6_serves wsX6_setNearest := goodIn_r _ [20, 2, 21, 22, 23, 24, 7, 25, 1, 26, 27, 3, 28, 29, 30, 31, 32, 33, 34, 35, 36, 37, 38, 39, 40, 41, 42, 43, 44, 45, 46, 47, 48, 49, 50, 51, 52, 53, 54, 55, 56, 57, 58, 59, 60, 61, 62, 63, 64, 65] (by decide +kernel) (by decide +kernel)
set_option maxRecDepth 20000 in
theorem gX6_serves_X6_setNearest : GoodIn wsX6_serves (wsV RX6 135 RX6 yX6_setNearest wsX6_setNearest) := goodIn_app (goodIn_of _ (by decide +kernel)) ggX6_serves_X6_setNearest
theorem dX6_serves_0 : decode cX6_serves 0 = .ok (.aload_n 0, 1) := by decide +kernel
theorem dX6_serves_1 : decode cX6_serves 1 = .ok (.iload_n 1, 1) := by decide +kernel
theorem dX6_serves_2 : decode cX6_serves 2 = .ok (.invokevirtual 73, 3) := by decide +kernel
theorem dX6_serves_5 : decode cX6_serves 5 = .ok (.ifCond .ne 8, 3) := by decide +kernel
theorem dX6_serves_8 : decode cX6_serves 8 = .ok (.aload_n 0, 1) := by decide +kernel
theorem dX6_serves_9 : decode cX6_serves 9 = .ok (.invokevirtual 59, 3) := by decide +kernel
theorem dX6_serves_12 : decode cX6_serves 12 = .ok (.ireturn, 1) := by decide +kernel
theorem dX6_serves_13 : decode cX6_serves 13 = .ok (.iconst 0, 1) := by decide +kernel
theorem dX6_serves_14 : decode cX6_serves 14 = .ok (.istore_n 2, 1) := by decide +kernel
theorem dX6_serves_15 : decode cX6_serves 15 = .ok (.iconst 0, 1) := by decide +kernel
theorem dX6_serves_16 : decode cX6_serves 16 = .ok (.istore_n 3, 1) := by decide +kernel
theorem dX6_serves_17 : decode cX6_serves 17 = .ok (.iload_n 3, 1) := by decide +kernel
theorem dX6_serves_18 : decode cX6_serves 18 = .ok (.aload_n 0, 1) := by decide +kernel
theorem dX6_serves_19 : decode cX6_serves 19 = .ok (.getfield 48, 3) := by decide +kernel
theorem dX6_serves_22 : decode cX6_serves 22 = .ok (.if_icmp .ge 51, 3) := by decide +kernel
theorem dX6_serves_25 : decode cX6_serves 25 = .ok (.aload_n 0, 1) := by decide +kernel
theorem dX6_serves_26 : decode cX6_serves 26 = .ok (.iload_n 3, 1) := by decide +kernel
theorem dX6_serves_27 : decode cX6_serves 27 = .ok (.invokevirtual 135, 3) := by decide +kernel
theorem dX6_serves_30 : decode cX6_serves 30 = .ok (.iconst 0, 1) := by decide +kernel
theorem dX6_serves_31 : decode cX6_serves 31 = .ok (.istore 4, 2) := by decide +kernel
theorem dX6_serves_33 : decode cX6_serves 33 = .ok (.iload 4, 2) := by decide +kernel
theorem dX6_serves_35 : decode cX6_serves 35 = .ok (.aload_n 0, 1) := by decide +kernel
theorem dX6_serves_36 : decode cX6_serves 36 = .ok (.getfield 124, 3) := by decide +kernel
theorem dX6_serves_39 : decode cX6_serves 39 = .ok (.if_icmp .ge 28, 3) := by decide +kernel
theorem dX6_serves_42 : decode cX6_serves 42 = .ok (.iload_n 2, 1) := by decide +kernel
theorem dX6_serves_43 : decode cX6_serves 43 = .ok (.aload_n 0, 1) := by decide +kernel
theorem dX6_serves_44 : decode cX6_serves 44 = .ok (.getfield 22, 3) := by decide +kernel
theorem dX6_serves_47 : decode cX6_serves 47 = .ok (.iload 4, 2) := by decide +kernel
theorem dX6_serves_49 : decode cX6_serves 49 = .ok (.iaload, 1) := by decide +kernel
theorem dX6_serves_50 : decode cX6_serves 50 = .ok (.iload_n 1, 1) := by decide +kernel
theorem dX6_serves_51 : decode cX6_serves 51 = .ok (.if_icmp .ne 7, 3) := by decide +kernel
theorem dX6_serves_54 : decode cX6_serves 54 = .ok (.iconst 1, 1) := by decide +kernel
theorem dX6_serves_55 : decode cX6_serves 55 = .ok (.goto 4, 3) := by decide +kernel
theorem dX6_serves_58 : decode cX6_serves 58 = .ok (.iconst 0, 1) := by decide +kernel
theorem dX6_serves_59 : decode cX6_serves 59 = .ok (.iadd, 1) := by decide +kernel
theorem dX6_serves_60 : decode cX6_serves 60 = .ok (.istore_n 2, 1) := by decide +kernel
theorem dX6_serves_61 : decode cX6_serves 61 = .ok (.iinc 4 1, 3) := by decide +kernel
theorem dX6_serves_64 : decode cX6_serves 64 = .ok (.goto (-31), 3) := by decide +kernel
theorem dX6_serves_67 : decode cX6_serves 67 = .ok (.iinc 3 1, 3) := by decide +kernel
theorem dX6_serves_70 : decode cX6_serves 70 = .ok (.goto (-53), 3) := by decide +kernel
theorem dX6_serves_73 : decode cX6_serves 73 = .ok (.iload_n 2, 1) := by decide +kernel
theorem dX6_serves_74 : decode cX6_serves 74 = .ok (.ireturn, 1) := by decide +kernel
set_option maxRecDepth 20000 in
theorem ggX6_twins_X6_in : GoodIn wsX6_twins wsX6_in := goodIn_r _ [6] (by decide +kernel) (by decide +kernel)
set_option maxRecDepth 20000 in
theorem gX6_twins_X6_in : GoodIn wsX6_twins (va_wsS RX6 44 yX6_in wsX6_in) := goodIn_app (goodIn_of _ (by decide +kernel)) ggX6_twins_X6_in
set_option maxRecDepth 20000 in
theorem ggX6_twins_X6_bad : GoodIn wsX6_twins wsX6_bad := goodIn_r _ [10, 11, 38, 39, 40, 41, 42, 43, 44, 45, 46, 47, 48, 49, 50, 51, 52, 53, 54, 55, 56, 57, 58] (by decide +kernel) (by decide +kernel)
set_option maxRecDepth 20000 in
theorem gX6_twins_X6_bad : GoodIn wsX6_twins (wsV RX6 59 RX6 yX6_bad wsX6_bad) := goodIn_app (goodIn_of _ (by decide +kernel)) ggX6_twins_X6_bad
set_option maxRecDepth 20000 in
theorem ggX6_twins_X6_distanceOf : GoodIn wsX6_twins wsX6_distanceOf := goodIn_r _ [15, 2, 16, 17, 18, 19, 20, 5, 21, 22, 23, 24, 25, 38, 39, 40, 41, 42, 43, 44, 45, 46, 47, 48, 49, 50, 51, 52, 53, 54, 55, 56, 57, 58] (by decide +kernel) (by decide +kernel)
set_option maxRecDepth 20000 in
theorem gX6_twins_X6_distanceOf : GoodIn wsX6_twins (wsV RX6 114 RX6 yX6_distanceOf wsX6_distanceOf) := goodIn_app (goodIn_of _ (by decide +kernel)) ggX6_twins_X6_distanceOf
set_option maxRecDepth 20000 in
theorem ggX6_twins_Jxf58ca_floatToIntBits_5c35a : GoodIn wsX6_twins wsJxf58ca_floatToIntBits_5c35a := goodIn_r _ [29, 30, 31, 32, 33, 34, 35, 36, 28, 37] (by decide +kernel) (by decide +kernel)
set_option maxRecDepth 20000 in
theorem gX6_twins_Jxf58ca_floatToIntBits_5c35a : GoodIn wsX6_twins (va_wsS RX6 118 yJxf58ca_floatToIntBits_5c35a wsJxf58ca_floatToIntBits_5c35a) := goodIn_app (goodIn_of _ (by decide +kernel)) ggX6_twins_Jxf58ca_floatToIntBits_5c35a
theorem dX6_twins_0 : decode cX6_twins 0 = .ok (.iload_n 1, 1) := by decide +kernel
theorem dX6_twins_1 : decode cX6_twins 1 = .ok (.iconst 0, 1) := by decide +kernel
theorem dX6_twins_2 : decode cX6_twins 2 = .ok (.iconst 2, 1) := by decide +kernel
theorem dX6_twins_3 : decode cX6_twins 3 = .ok (.invokestatic 44, 3) := by decide +kernel
theorem dX6_twins_6 : decode cX6_twins 6 = .ok (.ifCond .ne 8, 3) := by decide +kernel
theorem dX6_twins_9 : decode cX6_twins 9 = .ok (.aload_n 0, 1) := by decide +kernel
theorem dX6_twins_10 : decode cX6_twins 10 = .ok (.invokevirtual 59, 3) := by decide +kernel
theorem dX6_twins_13 : decode cX6_twins 13 = .ok (.ireturn, 1) := by decide +kernel
theorem dX6_twins_14 : decode cX6_twins 14 = .ok (.iconst (-1), 1) := by decide +kernel
theorem dX6_twins_15 : decode cX6_twins 15 = .ok (.istore_n 2, 1) := by decide +kernel
theorem dX6_twins_16 : decode cX6_twins 16 = .ok (.iconst (-1), 1) := by decide +kernel
theorem dX6_twins_17 : decode cX6_twins 17 = .ok (.istore_n 3, 1) := by decide +kernel
theorem dX6_twins_18 : decode cX6_twins 18 = .ok (.fconst 0, 1) := by decide +kernel
theorem dX6_twins_19 : decode cX6_twins 19 = .ok (.fstore 4, 2) := by decide +kernel
theorem dX6_twins_21 : decode cX6_twins 21 = .ok (.iconst 0, 1) := by decide +kernel
theorem dX6_twins_22 : decode cX6_twins 22 = .ok (.istore 5, 2) := by decide +kernel
theorem dX6_twins_24 : decode cX6_twins 24 = .ok (.iload 5, 2) := by decide +kernel
theorem dX6_twins_26 : decode cX6_twins 26 = .ok (.aload_n 0, 1) := by decide +kernel
theorem dX6_twins_27 : decode cX6_twins 27 = .ok (.getfield 48, 3) := by decide +kernel
theorem dX6_twins_30 : decode cX6_twins 30 = .ok (.if_icmp .ge 70, 3) := by decide +kernel
theorem dX6_twins_33 : decode cX6_twins 33 = .ok (.iload 5, 2) := by decide +kernel
theorem dX6_twins_35 : decode cX6_twins 35 = .ok (.iconst 1, 1) := by decide +kernel
theorem dX6_twins_36 : decode cX6_twins 36 = .ok (.iadd, 1) := by decide +kernel
theorem dX6_twins_37 : decode cX6_twins 37 = .ok (.istore 6, 2) := by decide +kernel
theorem dX6_twins_39 : decode cX6_twins 39 = .ok (.iload 6, 2) := by decide +kernel
theorem dX6_twins_41 : decode cX6_twins 41 = .ok (.aload_n 0, 1) := by decide +kernel
theorem dX6_twins_42 : decode cX6_twins 42 = .ok (.getfield 48, 3) := by decide +kernel
theorem dX6_twins_45 : decode cX6_twins 45 = .ok (.if_icmp .ge 49, 3) := by decide +kernel
theorem dX6_twins_48 : decode cX6_twins 48 = .ok (.aload_n 0, 1) := by decide +kernel
theorem dX6_twins_49 : decode cX6_twins 49 = .ok (.iload 5, 2) := by decide +kernel
theorem dX6_twins_51 : decode cX6_twins 51 = .ok (.iload 6, 2) := by decide +kernel
theorem dX6_twins_53 : decode cX6_twins 53 = .ok (.invokevirtual 114, 3) := by decide +kernel
theorem dX6_twins_56 : decode cX6_twins 56 = .ok (.fstore 7, 2) := by decide +kernel
theorem dX6_twins_58 : decode cX6_twins 58 = .ok (.aload_n 0, 1) := by decide +kernel
theorem dX6_twins_59 : decode cX6_twins 59 = .ok (.getfield 102, 3) := by decide +kernel
theorem dX6_twins_62 : decode cX6_twins 62 = .ok (.ifCond .eq 26, 3) := by decide +kernel
theorem dX6_twins_65 : decode cX6_twins 65 = .ok (.iload_n 2, 1) := by decide +kernel
theorem dX6_twins_66 : decode cX6_twins 66 = .ok (.iconst (-1), 1) := by decide +kernel
theorem dX6_twins_67 : decode cX6_twins 67 = .ok (.if_icmp .eq 11, 3) := by decide +kernel
theorem dX6_twins_70 : decode cX6_twins 70 = .ok (.fload 7, 2) := by decide +kernel
theorem dX6_twins_72 : decode cX6_twins 72 = .ok (.fload 4, 2) := by decide +kernel
theorem dX6_twins_74 : decode cX6_twins 74 = .ok (.fcmp .g, 1) := by decide +kernel
theorem dX6_twins_75 : decode cX6_twins 75 = .ok (.ifCond .ge 13, 3) := by decide +kernel
theorem dX6_twins_78 : decode cX6_twins 78 = .ok (.iload 5, 2) := by decide +kernel
theorem dX6_twins_80 : decode cX6_twins 80 = .ok (.istore_n 2, 1) := by decide +kernel
theorem dX6_twins_81 : decode cX6_twins 81 = .ok (.iload 6, 2) := by decide +kernel
theorem dX6_twins_83 : decode cX6_twins 83 = .ok (.istore_n 3, 1) := by decide +kernel
theorem dX6_twins_84 : decode cX6_twins 84 = .ok (.fload 7, 2) := by decide +kernel
theorem dX6_twins_86 : decode cX6_twins 86 = .ok (.fstore 4, 2) := by decide +kernel
theorem dX6_twins_88 : decode cX6_twins 88 = .ok (.iinc 6 1, 3) := by decide +kernel
theorem dX6_twins_91 : decode cX6_twins 91 = .ok (.goto (-52), 3) := by decide +kernel
theorem dX6_twins_94 : decode cX6_twins 94 = .ok (.iinc 5 1, 3) := by decide +kernel
theorem dX6_twins_97 : decode cX6_twins 97 = .ok (.goto (-73), 3) := by decide +kernel
theorem dX6_twins_100 : decode cX6_twins 100 = .ok (.iload_n 1, 1) := by decide +kernel
theorem dX6_twins_101 : decode cX6_twins 101 = .ok (.ifCond .eq 8, 3) := by decide +kernel
theorem dX6_twins_104 : decode cX6_twins 104 = .ok (.iload_n 2, 1) := by decide +kernel
theorem dX6_twins_105 : decode cX6_twins 105 = .ok (.iconst (-1), 1) := by decide +kernel
theorem dX6_twins_106 : decode cX6_twins 106 = .ok (.if_icmp .ne 7, 3) := by decide +kernel
theorem dX6_twins_109 : decode cX6_twins 109 = .ok (.iload_n 2, 1) := by decide +kernel
theorem dX6_twins_110 : decode cX6_twins 110 = .ok (.goto 17, 3) := by decide +kernel
theorem dX6_twins_113 : decode cX6_twins 113 = .ok (.iload_n 1, 1) := by decide +kernel
theorem dX6_twins_114 : decode cX6_twins 114 = .ok (.iconst 1, 1) := by decide +kernel
theorem dX6_twins_115 : decode cX6_twins 115 = .ok (.if_icmp .ne 7, 3) := by decide +kernel
theorem dX6_twins_118 : decode cX6_twins 118 = .ok (.iload_n 3, 1) := by decide +kernel
theorem dX6_twins_119 : decode cX6_twins 119 = .ok (.goto 8, 3) := by decide +kernel
theorem dX6_twins_122 : decode cX6_twins 122 = .ok (.fload 4, 2) := by decide +kernel
theorem dX6_twins_124 : decode cX6_twins 124 = .ok (.invokestatic 118, 3) := by decide +kernel
theorem dX6_twins_127 : decode cX6_twins 127 = .ok (.ireturn, 1) := by decide +kernel
set_option maxRecDepth 20000 in
theorem ggX6_strangers_X6_isDay : GoodIn wsX6_strangers wsX6_isDay := goodIn_r _ [7, 1, 8, 9, 6, 10, 30, 31, 32, 33, 34, 35, 36, 37, 38, 39, 40, 41, 42, 43, 44, 45, 46, 47, 48, 49, 50] (by decide +kernel) (by decide +kernel)
set_option maxRecDepth 20000 in
theorem gX6_strangers_X6_isDay : GoodIn wsX6_strangers (wsV RX6 73 RX6 yX6_isDay wsX6_isDay) := goodIn_app (goodIn_of _ (by decide +kernel)) ggX6_strangers_X6_isDay
set_option maxRecDepth 20000 in
theorem ggX6_strangers_X6_bad : GoodIn wsX6_strangers wsX6_bad := goodIn_r _ [14, 15, 30, 31, 32, 33, 34, 35, 36, 37, 38, 39, 40, 41, 42, 43, 44, 45, 46, 47, 48, 49, 50] (by decide +kernel) (by decide +kernel)
set_option maxRecDepth 20000 in
theorem gX6_strangers_X6_bad : GoodIn wsX6_strangers (wsV RX6 59 RX6 yX6_bad wsX6_bad) := goodIn_app (goodIn_of _ (by decide +kernel)) ggX6_strangers_X6_bad
set_option maxRecDepth 20000 in
theorem ggX6_strangers_X6_distanceOf : GoodIn wsX6_strangers wsX6_distanceOf := goodIn_r _ [19, 2, 20, 21, 22, 23, 24, 6, 25, 26, 27, 28, 29, 30, 31, 32, 33, 34, 35, 36, 37, 38, 39, 40, 41, 42, 43, 44, 45, 46, 47, 48, 49, 50] (by decide +kernel) (by decide +kernel)
set_option maxRecDepth 20000 in
theorem gX6_strangers_X6_distanceOf : GoodIn wsX6_strangers (wsV RX6 114 RX6 yX6_distanceOf wsX6_distanceOf) := goodIn_app (goodIn_of _ (by decide +kernel)) ggX6_strangers_X6_distanceOf
theorem dX6_strangers_0 : decode cX6_strangers 0 = .ok (.aload_n 0, 1) := by decide +kernel
theorem dX6_strangers_1 : decode cX6_strangers 1 = .ok (.iload_n 1, 1) := by decide +kernel
theorem dX6_strangers_2 : decode cX6_strangers 2 = .ok (.invokevirtual 73, 3) := by decide +kernel
theorem dX6_strangers_5 : decode cX6_strangers 5 = .ok (.ifCond .ne 8, 3) := by decide +kernel
theorem dX6_strangers_8 : decode cX6_strangers 8 = .ok (.aload_n 0, 1) := by decide +kernel
theorem dX6_strangers_9 : decode cX6_strangers 9 = .ok (.invokevirtual 59, 3) := by decide +kernel
theorem dX6_strangers_12 : decode cX6_strangers 12 = .ok (.ireturn, 1) := by decide +kernel
theorem dX6_strangers_13 : decode cX6_strangers 13 = .ok (.iconst 0, 1) := by decide +kernel
theorem dX6_strangers_14 : decode cX6_strangers 14 = .ok (.istore_n 2, 1) := by decide +kernel
theorem dX6_strangers_15 : decode cX6_strangers 15 = .ok (.iconst 0, 1) := by decide +kernel
theorem dX6_strangers_16 : decode cX6_strangers 16 = .ok (.istore_n 3, 1) := by decide +kernel
theorem dX6_strangers_17 : decode cX6_strangers 17 = .ok (.iload_n 3, 1) := by decide +kernel
theorem dX6_strangers_18 : decode cX6_strangers 18 = .ok (.aload_n 0, 1) := by decide +kernel
theorem dX6_strangers_19 : decode cX6_strangers 19 = .ok (.getfield 48, 3) := by decide +kernel
theorem dX6_strangers_22 : decode cX6_strangers 22 = .ok (.if_icmp .ge 36, 3) := by decide +kernel
theorem dX6_strangers_25 : decode cX6_strangers 25 = .ok (.iload_n 3, 1) := by decide +kernel
theorem dX6_strangers_26 : decode cX6_strangers 26 = .ok (.iload_n 1, 1) := by decide +kernel
theorem dX6_strangers_27 : decode cX6_strangers 27 = .ok (.if_icmp .eq 25, 3) := by decide +kernel
theorem dX6_strangers_30 : decode cX6_strangers 30 = .ok (.aload_n 0, 1) := by decide +kernel
theorem dX6_strangers_31 : decode cX6_strangers 31 = .ok (.iload_n 1, 1) := by decide +kernel
theorem dX6_strangers_32 : decode cX6_strangers 32 = .ok (.iload_n 3, 1) := by decide +kernel
theorem dX6_strangers_33 : decode cX6_strangers 33 = .ok (.invokevirtual 114, 3) := by decide +kernel
theorem dX6_strangers_36 : decode cX6_strangers 36 = .ok (.pop, 1) := by decide +kernel
theorem dX6_strangers_37 : decode cX6_strangers 37 = .ok (.iload_n 2, 1) := by decide +kernel
theorem dX6_strangers_38 : decode cX6_strangers 38 = .ok (.aload_n 0, 1) := by decide +kernel
theorem dX6_strangers_39 : decode cX6_strangers 39 = .ok (.getfield 102, 3) := by decide +kernel
theorem dX6_strangers_42 : decode cX6_strangers 42 = .ok (.ifCond .eq 7, 3) := by decide +kernel
theorem dX6_strangers_45 : decode cX6_strangers 45 = .ok (.iconst 0, 1) := by decide +kernel
theorem dX6_strangers_46 : decode cX6_strangers 46 = .ok (.goto 4, 3) := by decide +kernel
theorem dX6_strangers_49 : decode cX6_strangers 49 = .ok (.iconst 1, 1) := by decide +kernel
theorem dX6_strangers_50 : decode cX6_strangers 50 = .ok (.iadd, 1) := by decide +kernel
theorem dX6_strangers_51 : decode cX6_strangers 51 = .ok (.istore_n 2, 1) := by decide +kernel
theorem dX6_strangers_52 : decode cX6_strangers 52 = .ok (.iinc 3 1, 3) := by decide +kernel
theorem dX6_strangers_55 : decode cX6_strangers 55 = .ok (.goto (-38), 3) := by decide +kernel
theorem dX6_strangers_58 : decode cX6_strangers 58 = .ok (.iload_n 2, 1) := by decide +kernel
theorem dX6_strangers_59 : decode cX6_strangers 59 = .ok (.ireturn, 1) := by decide +kernel
set_option maxRecDepth 20000 in
theorem ggX6_setFollowers_X6_setNearest : GoodIn wsX6_setFollowers wsX6_setNearest := goodIn_r _ [13, 2, 14, 15, 16, 17, 12, 18, 19, 20, 7, 4, 21, 22, 23, 24, 25, 26, 27, 28, 3, 29, 30, 31, 32, 33, 34, 35, 36, 37, 38, 39, 40, 41, 42, 43, 44, 45, 46, 47, 48, 49, 50, 51, 52, 53, 54, 55, 56, 57] (by decide +kernel) (by decide +kernel)
set_option maxRecDepth 20000 in
theorem gX6_setFollowers_X6_setNearest : GoodIn wsX6_setFollowers (wsV RX6 135 RX6 yX6_setNearest wsX6_setNearest) := goodIn_app (goodIn_of _ (by decide +kernel)) ggX6_setFollowers_X6_setNearest
set_option maxRecDepth 20000 in
theorem ggX6_setFollowers_X6_isNoted : GoodIn wsX6_setFollowers wsX6_isNoted := goodIn_r _ [32] (by decide +kernel) (by decide +kernel)
set_option maxRecDepth 20000 in
theorem gX6_setFollowers_X6_isNoted : GoodIn wsX6_setFollowers (va_wsS RX6 106 yX6_isNoted wsX6_isNoted) := goodIn_app (goodIn_of _ (by decide +kernel)) ggX6_setFollowers_X6_isNoted
theorem dX6_setFollowers_0 : decode cX6_setFollowers 0 = .ok (.aload_n 0, 1) := by decide +kernel
theorem dX6_setFollowers_1 : decode cX6_setFollowers 1 = .ok (.iload_n 1, 1) := by decide +kernel
theorem dX6_setFollowers_2 : decode cX6_setFollowers 2 = .ok (.invokevirtual 135, 3) := by decide +kernel
theorem dX6_setFollowers_5 : decode cX6_setFollowers 5 = .ok (.aload_n 0, 1) := by decide +kernel
theorem dX6_setFollowers_6 : decode cX6_setFollowers 6 = .ok (.iconst 0, 1) := by decide +kernel
theorem dX6_setFollowers_7 : decode cX6_setFollowers 7 = .ok (.putfield 138, 3) := by decide +kernel
theorem dX6_setFollowers_10 : decode cX6_setFollowers 10 = .ok (.iconst 0, 1) := by decide +kernel
theorem dX6_setFollowers_11 : decode cX6_setFollowers 11 = .ok (.istore_n 3, 1) := by decide +kernel
theorem dX6_setFollowers_12 : decode cX6_setFollowers 12 = .ok (.iload_n 3, 1) := by decide +kernel
theorem dX6_setFollowers_13 : decode cX6_setFollowers 13 = .ok (.aload_n 0, 1) := by decide +kernel
theorem dX6_setFollowers_14 : decode cX6_setFollowers 14 = .ok (.getfield 124, 3) := by decide +kernel
theorem dX6_setFollowers_17 : decode cX6_setFollowers 17 = .ok (.if_icmp .ge 72, 3) := by decide +kernel
theorem dX6_setFollowers_20 : decode cX6_setFollowers 20 = .ok (.aload_n 0, 1) := by decide +kernel
theorem dX6_setFollowers_21 : decode cX6_setFollowers 21 = .ok (.getfield 16, 3) := by decide +kernel
theorem dX6_setFollowers_24 : decode cX6_setFollowers 24 = .ok (.iconst 4, 1) := by decide +kernel
theorem dX6_setFollowers_25 : decode cX6_setFollowers 25 = .ok (.aload_n 0, 1) := by decide +kernel
theorem dX6_setFollowers_26 : decode cX6_setFollowers 26 = .ok (.getfield 22, 3) := by decide +kernel
theorem dX6_setFollowers_29 : decode cX6_setFollowers 29 = .ok (.iload_n 3, 1) := by decide +kernel
theorem dX6_setFollowers_30 : decode cX6_setFollowers 30 = .ok (.iaload, 1) := by decide +kernel
theorem dX6_setFollowers_31 : decode cX6_setFollowers 31 = .ok (.iconst 1, 1) := by decide +kernel
theorem dX6_setFollowers_32 : decode cX6_setFollowers 32 = .ok (.iadd, 1) := by decide +kernel
theorem dX6_setFollowers_33 : decode cX6_setFollowers 33 = .ok (.imul, 1) := by decide +kernel
theorem dX6_setFollowers_34 : decode cX6_setFollowers 34 = .ok (.iload_n 2, 1) := by decide +kernel
theorem dX6_setFollowers_35 : decode cX6_setFollowers 35 = .ok (.iadd, 1) := by decide +kernel
theorem dX6_setFollowers_36 : decode cX6_setFollowers 36 = .ok (.iaload, 1) := by decide +kernel
theorem dX6_setFollowers_37 : decode cX6_setFollowers 37 = .ok (.istore 4, 2) := by decide +kernel
theorem dX6_setFollowers_39 : decode cX6_setFollowers 39 = .ok (.iload 4, 2) := by decide +kernel
theorem dX6_setFollowers_41 : decode cX6_setFollowers 41 = .ok (.invokestatic 106, 3) := by decide +kernel
theorem dX6_setFollowers_44 : decode cX6_setFollowers 44 = .ok (.ifCond .eq 39, 3) := by decide +kernel
theorem dX6_setFollowers_47 : decode cX6_setFollowers 47 = .ok (.aload_n 0, 1) := by decide +kernel
theorem dX6_setFollowers_48 : decode cX6_setFollowers 48 = .ok (.getfield 29, 3) := by decide +kernel
theorem dX6_setFollowers_51 : decode cX6_setFollowers 51 = .ok (.aload_n 0, 1) := by decide +kernel
theorem dX6_setFollowers_52 : decode cX6_setFollowers 52 = .ok (.getfield 138, 3) := by decide +kernel
theorem dX6_setFollowers_55 : decode cX6_setFollowers 55 = .ok (.iload 4, 2) := by decide +kernel
theorem dX6_setFollowers_57 : decode cX6_setFollowers 57 = .ok (.iastore, 1) := by decide +kernel
theorem dX6_setFollowers_58 : decode cX6_setFollowers 58 = .ok (.aload_n 0, 1) := by decide +kernel
theorem dX6_setFollowers_59 : decode cX6_setFollowers 59 = .ok (.getfield 32, 3) := by decide +kernel
theorem dX6_setFollowers_62 : decode cX6_setFollowers 62 = .ok (.aload_n 0, 1) := by decide +kernel
theorem dX6_setFollowers_63 : decode cX6_setFollowers 63 = .ok (.getfield 138, 3) := by decide +kernel
theorem dX6_setFollowers_66 : decode cX6_setFollowers 66 = .ok (.aload_n 0, 1) := by decide +kernel
theorem dX6_setFollowers_67 : decode cX6_setFollowers 67 = .ok (.getfield 25, 3) := by decide +kernel
theorem dX6_setFollowers_70 : decode cX6_setFollowers 70 = .ok (.iload_n 3, 1) := by decide +kernel
theorem dX6_setFollowers_71 : decode cX6_setFollowers 71 = .ok (.faload, 1) := by decide +kernel
theorem dX6_setFollowers_72 : decode cX6_setFollowers 72 = .ok (.fastore, 1) := by decide +kernel
theorem dX6_setFollowers_73 : decode cX6_setFollowers 73 = .ok (.aload_n 0, 1) := by decide +kernel
theorem dX6_setFollowers_74 : decode cX6_setFollowers 74 = .ok (.dup, 1) := by decide +kernel
theorem dX6_setFollowers_75 : decode cX6_setFollowers 75 = .ok (.getfield 138, 3) := by decide +kernel
theorem dX6_setFollowers_78 : decode cX6_setFollowers 78 = .ok (.iconst 1, 1) := by decide +kernel
theorem dX6_setFollowers_79 : decode cX6_setFollowers 79 = .ok (.iadd, 1) := by decide +kernel
theorem dX6_setFollowers_80 : decode cX6_setFollowers 80 = .ok (.putfield 138, 3) := by decide +kernel
theorem dX6_setFollowers_83 : decode cX6_setFollowers 83 = .ok (.iinc 3 1, 3) := by decide +kernel
theorem dX6_setFollowers_86 : decode cX6_setFollowers 86 = .ok (.goto (-74), 3) := by decide +kernel
theorem dX6_setFollowers_89 : decode cX6_setFollowers 89 = .ok (.iconst 0, 1) := by decide +kernel
theorem dX6_setFollowers_90 : decode cX6_setFollowers 90 = .ok (.istore_n 3, 1) := by decide +kernel
theorem dX6_setFollowers_91 : decode cX6_setFollowers 91 = .ok (.iload_n 3, 1) := by decide +kernel
theorem dX6_setFollowers_92 : decode cX6_setFollowers 92 = .ok (.aload_n 0, 1) := by decide +kernel
theorem dX6_setFollowers_93 : decode cX6_setFollowers 93 = .ok (.getfield 138, 3) := by decide +kernel
theorem dX6_setFollowers_96 : decode cX6_setFollowers 96 = .ok (.if_icmp .ge 70, 3) := by decide +kernel
theorem dX6_setFollowers_99 : decode cX6_setFollowers 99 = .ok (.iload_n 3, 1) := by decide +kernel
theorem dX6_setFollowers_100 : decode cX6_setFollowers 100 = .ok (.istore 4, 2) := by decide +kernel
theorem dX6_setFollowers_102 : decode cX6_setFollowers 102 = .ok (.iload 4, 2) := by decide +kernel
theorem dX6_setFollowers_104 : decode cX6_setFollowers 104 = .ok (.ifCond .le 43, 3) := by decide +kernel
theorem dX6_setFollowers_107 : decode cX6_setFollowers 107 = .ok (.aload_n 0, 1) := by decide +kernel
theorem dX6_setFollowers_108 : decode cX6_setFollowers 108 = .ok (.getfield 35, 3) := by decide +kernel
theorem dX6_setFollowers_111 : decode cX6_setFollowers 111 = .ok (.iload 4, 2) := by decide +kernel
theorem dX6_setFollowers_113 : decode cX6_setFollowers 113 = .ok (.iconst 1, 1) := by decide +kernel
theorem dX6_setFollowers_114 : decode cX6_setFollowers 114 = .ok (.isub, 1) := by decide +kernel
theorem dX6_setFollowers_115 : decode cX6_setFollowers 115 = .ok (.iaload, 1) := by decide +kernel
theorem dX6_setFollowers_116 : decode cX6_setFollowers 116 = .ok (.aload_n 0, 1) := by decide +kernel
theorem dX6_setFollowers_117 : decode cX6_setFollowers 117 = .ok (.getfield 29, 3) := by decide +kernel
theorem dX6_setFollowers_120 : decode cX6_setFollowers 120 = .ok (.iload_n 3, 1) := by decide +kernel
theorem dX6_setFollowers_121 : decode cX6_setFollowers 121 = .ok (.iaload, 1) := by decide +kernel
theorem dX6_setFollowers_122 : decode cX6_setFollowers 122 = .ok (.if_icmp .le 25, 3) := by decide +kernel
theorem dX6_setFollowers_125 : decode cX6_setFollowers 125 = .ok (.aload_n 0, 1) := by decide +kernel
theorem dX6_setFollowers_126 : decode cX6_setFollowers 126 = .ok (.getfield 35, 3) := by decide +kernel
theorem dX6_setFollowers_129 : decode cX6_setFollowers 129 = .ok (.iload 4, 2) := by decide +kernel
theorem dX6_setFollowers_131 : decode cX6_setFollowers 131 = .ok (.aload_n 0, 1) := by decide +kernel
theorem dX6_setFollowers_132 : decode cX6_setFollowers 132 = .ok (.getfield 35, 3) := by decide +kernel
theorem dX6_setFollowers_135 : decode cX6_setFollowers 135 = .ok (.iload 4, 2) := by decide +kernel
theorem dX6_setFollowers_137 : decode cX6_setFollowers 137 = .ok (.iconst 1, 1) := by decide +kernel
theorem dX6_setFollowers_138 : decode cX6_setFollowers 138 = .ok (.isub, 1) := by decide +kernel
theorem dX6_setFollowers_139 : decode cX6_setFollowers 139 = .ok (.iaload, 1) := by decide +kernel
theorem dX6_setFollowers_140 : decode cX6_setFollowers 140 = .ok (.iastore, 1) := by decide +kernel
theorem dX6_setFollowers_141 : decode cX6_setFollowers 141 = .ok (.iinc 4 (-1), 3) := by decide +kernel
theorem dX6_setFollowers_144 : decode cX6_setFollowers 144 = .ok (.goto (-42), 3) := by decide +kernel
theorem dX6_setFollowers_147 : decode cX6_setFollowers 147 = .ok (.aload_n 0, 1) := by decide +kernel
theorem dX6_setFollowers_148 : decode cX6_setFollowers 148 = .ok (.getfield 35, 3) := by decide +kernel
theorem dX6_setFollowers_151 : decode cX6_setFollowers 151 = .ok (.iload 4, 2) := by decide +kernel
theorem dX6_setFollowers_153 : decode cX6_setFollowers 153 = .ok (.aload_n 0, 1) := by decide +kernel
theorem dX6_setFollowers_154 : decode cX6_setFollowers 154 = .ok (.getfield 29, 3) := by decide +kernel
theorem dX6_setFollowers_157 : decode cX6_setFollowers 157 = .ok (.iload_n 3, 1) := by decide +kernel
theorem dX6_setFollowers_158 : decode cX6_setFollowers 158 = .ok (.iaload, 1) := by decide +kernel
theorem dX6_setFollowers_159 : decode cX6_setFollowers 159 = .ok (.iastore, 1) := by decide +kernel
theorem dX6_setFollowers_160 : decode cX6_setFollowers 160 = .ok (.iinc 3 1, 3) := by decide +kernel
theorem dX6_setFollowers_163 : decode cX6_setFollowers 163 = .ok (.goto (-72), 3) := by decide +kernel
theorem dX6_setFollowers_166 : decode cX6_setFollowers 166 = .ok (.return_, 1) := by decide +kernel
set_option maxRecDepth 20000 in
theorem ggX6_follows_X6_isDay : GoodIn wsX6_follows wsX6_isDay := goodIn_r _ [7, 8, 9, 10, 6, 11, 56, 57, 58, 59, 60, 61, 62, 63, 64, 65, 66, 67, 68, 69, 70, 71, 72, 73, 74, 75, 76] (by decide +kernel) (by decide +kernel)
set_option maxRecDepth 20000 in
theorem gX6_follows_X6_isDay : GoodIn wsX6_follows (wsV RX6 73 RX6 yX6_isDay wsX6_isDay) := goodIn_app (goodIn_of _ (by decide +kernel)) ggX6_follows_X6_isDay
set_option maxRecDepth 20000 in
theorem ggX6_follows_X6_isMember : GoodIn wsX6_follows wsX6_isMember := goodIn_r _ [14, 9, 10, 6, 11] (by decide +kernel) (by decide +kernel)
set_option maxRecDepth 20000 in
theorem gX6_follows_X6_isMember : GoodIn wsX6_follows (va_wsS RX6 76 yX6_isMember wsX6_isMember) := goodIn_app (goodIn_of _ (by decide +kernel)) ggX6_follows_X6_isMember
set_option maxRecDepth 20000 in
theorem ggX6_follows_X6_in : GoodIn wsX6_follows wsX6_in := goodIn_r _ [11] (by decide +kernel) (by decide +kernel)
set_option maxRecDepth 20000 in
theorem gX6_follows_X6_in : GoodIn wsX6_follows (va_wsS RX6 44 yX6_in wsX6_in) := goodIn_app (goodIn_of _ (by decide +kernel)) ggX6_follows_X6_in
set_option maxRecDepth 20000 in
theorem ggX6_follows_X6_badly : GoodIn wsX6_follows wsX6_badly := goodIn_r _ [18, 19, 56, 57, 58, 59, 60, 61, 62, 63, 64, 65, 66, 67, 68, 69, 70, 71, 72, 73, 74, 75, 76] (by decide +kernel) (by decide +kernel)
set_option maxRecDepth 20000 in
theorem gX6_follows_X6_badly : GoodIn wsX6_follows (wsV RX6 79 RX6 yX6_badly wsX6_badly) := goodIn_app (goodIn_of _ (by decide +kernel)) ggX6_follows_X6_badly
set_option maxRecDepth 20000 in
theorem ggX6_follows_X6_setFollowers : GoodIn wsX6_follows wsX6_setFollowers := goodIn_r _ [23, 1, 24, 25, 26, 27, 28, 29, 2, 30, 31, 32, 6, 33, 34, 35, 36, 37, 38, 8, 39, 40, 41, 42, 43, 44, 45, 46, 47, 48, 49, 50, 51, 52, 53, 54, 55, 56, 57, 58, 59, 60, 61, 62, 63, 64, 65, 66, 67, 68, 69, 70, 71, 72, 73, 74, 75, 76] (by decide +kernel) (by decide +kernel)
set_option maxRecDepth 20000 in
theorem gX6_follows_X6_setFollowers : GoodIn wsX6_follows (wsV RX6 141 RX6 yX6_setFollowers wsX6_setFollowers) := goodIn_app (goodIn_of _ (by decide +kernel)) ggX6_follows_X6_setFollowers
theorem dX6_follows_0 : decode cX6_follows 0 = .ok (.aload_n 0, 1) := by decide +kernel
theorem dX6_follows_1 : decode cX6_follows 1 = .ok (.iload_n 1, 1) := by decide +kernel
theorem dX6_follows_2 : decode cX6_follows 2 = .ok (.invokevirtual 73, 3) := by decide +kernel
theorem dX6_follows_5 : decode cX6_follows 5 = .ok (.ifCond .eq 29, 3) := by decide +kernel
theorem dX6_follows_8 : decode cX6_follows 8 = .ok (.iload_n 2, 1) := by decide +kernel
theorem dX6_follows_9 : decode cX6_follows 9 = .ok (.invokestatic 76, 3) := by decide +kernel
theorem dX6_follows_12 : decode cX6_follows 12 = .ok (.ifCond .eq 22, 3) := by decide +kernel
theorem dX6_follows_15 : decode cX6_follows 15 = .ok (.iload_n 3, 1) := by decide +kernel
theorem dX6_follows_16 : decode cX6_follows 16 = .ok (.iconst 0, 1) := by decide +kernel
theorem dX6_follows_17 : decode cX6_follows 17 = .ok (.iconst 5, 1) := by decide +kernel
theorem dX6_follows_18 : decode cX6_follows 18 = .ok (.invokestatic 44, 3) := by decide +kernel
theorem dX6_follows_21 : decode cX6_follows 21 = .ok (.ifCond .eq 13, 3) := by decide +kernel
theorem dX6_follows_24 : decode cX6_follows 24 = .ok (.iload 4, 2) := by decide +kernel
theorem dX6_follows_26 : decode cX6_follows 26 = .ok (.iconst 0, 1) := by decide +kernel
theorem dX6_follows_27 : decode cX6_follows 27 = .ok (.iconst 3, 1) := by decide +kernel
theorem dX6_follows_28 : decode cX6_follows 28 = .ok (.invokestatic 44, 3) := by decide +kernel
theorem dX6_follows_31 : decode cX6_follows 31 = .ok (.ifCond .ne 8, 3) := by decide +kernel
theorem dX6_follows_34 : decode cX6_follows 34 = .ok (.aload_n 0, 1) := by decide +kernel
theorem dX6_follows_35 : decode cX6_follows 35 = .ok (.invokevirtual 79, 3) := by decide +kernel
theorem dX6_follows_38 : decode cX6_follows 38 = .ok (.ireturn, 1) := by decide +kernel
theorem dX6_follows_39 : decode cX6_follows 39 = .ok (.aload_n 0, 1) := by decide +kernel
theorem dX6_follows_40 : decode cX6_follows 40 = .ok (.iload_n 1, 1) := by decide +kernel
theorem dX6_follows_41 : decode cX6_follows 41 = .ok (.iload_n 2, 1) := by decide +kernel
theorem dX6_follows_42 : decode cX6_follows 42 = .ok (.invokevirtual 141, 3) := by decide +kernel
theorem dX6_follows_45 : decode cX6_follows 45 = .ok (.aload_n 0, 1) := by decide +kernel
theorem dX6_follows_46 : decode cX6_follows 46 = .ok (.getfield 138, 3) := by decide +kernel
theorem dX6_follows_49 : decode cX6_follows 49 = .ok (.iconst 2, 1) := by decide +kernel
theorem dX6_follows_50 : decode cX6_follows 50 = .ok (.iload_n 3, 1) := by decide +kernel
theorem dX6_follows_51 : decode cX6_follows 51 = .ok (.imul, 1) := by decide +kernel
theorem dX6_follows_52 : decode cX6_follows 52 = .ok (.if_icmp .le 14, 3) := by decide +kernel
theorem dX6_follows_55 : decode cX6_follows 55 = .ok (.aload_n 0, 1) := by decide +kernel
theorem dX6_follows_56 : decode cX6_follows 56 = .ok (.getfield 138, 3) := by decide +kernel
theorem dX6_follows_59 : decode cX6_follows 59 = .ok (.iconst 2, 1) := by decide +kernel
theorem dX6_follows_60 : decode cX6_follows 60 = .ok (.iload_n 3, 1) := by decide +kernel
theorem dX6_follows_61 : decode cX6_follows 61 = .ok (.imul, 1) := by decide +kernel
theorem dX6_follows_62 : decode cX6_follows 62 = .ok (.isub, 1) := by decide +kernel
theorem dX6_follows_63 : decode cX6_follows 63 = .ok (.goto 4, 3) := by decide +kernel
theorem dX6_follows_66 : decode cX6_follows 66 = .ok (.iconst 0, 1) := by decide +kernel
theorem dX6_follows_67 : decode cX6_follows 67 = .ok (.istore 5, 2) := by decide +kernel
theorem dX6_follows_69 : decode cX6_follows 69 = .ok (.iload 4, 2) := by decide +kernel
theorem dX6_follows_71 : decode cX6_follows 71 = .ok (.ifCond .eq 9, 3) := by decide +kernel
theorem dX6_follows_74 : decode cX6_follows 74 = .ok (.iload 4, 2) := by decide +kernel
theorem dX6_follows_76 : decode cX6_follows 76 = .ok (.iconst 3, 1) := by decide +kernel
theorem dX6_follows_77 : decode cX6_follows 77 = .ok (.if_icmp .ne 18, 3) := by decide +kernel
theorem dX6_follows_80 : decode cX6_follows 80 = .ok (.iload 4, 2) := by decide +kernel
theorem dX6_follows_82 : decode cX6_follows 82 = .ok (.ifCond .ne 10, 3) := by decide +kernel
theorem dX6_follows_85 : decode cX6_follows 85 = .ok (.aload_n 0, 1) := by decide +kernel
theorem dX6_follows_86 : decode cX6_follows 86 = .ok (.getfield 138, 3) := by decide +kernel
theorem dX6_follows_89 : decode cX6_follows 89 = .ok (.goto 5, 3) := by decide +kernel
theorem dX6_follows_92 : decode cX6_follows 92 = .ok (.iload 5, 2) := by decide +kernel
theorem dX6_follows_94 : decode cX6_follows 94 = .ok (.ireturn, 1) := by decide +kernel
theorem dX6_follows_95 : decode cX6_follows 95 = .ok (.iload 5, 2) := by decide +kernel
theorem dX6_follows_97 : decode cX6_follows 97 = .ok (.ifCond .ne 9, 3) := by decide +kernel
theorem dX6_follows_100 : decode cX6_follows 100 = .ok (.sipush (-10000), 3) := by decide +kernel
theorem dX6_follows_103 : decode cX6_follows 103 = .ok (.goto 31, 3) := by decide +kernel
theorem dX6_follows_106 : decode cX6_follows 106 = .ok (.iload 4, 2) := by decide +kernel
theorem dX6_follows_108 : decode cX6_follows 108 = .ok (.iconst 1, 1) := by decide +kernel
theorem dX6_follows_109 : decode cX6_follows 109 = .ok (.if_icmp .ne 12, 3) := by decide +kernel
theorem dX6_follows_112 : decode cX6_follows 112 = .ok (.aload_n 0, 1) := by decide +kernel
theorem dX6_follows_113 : decode cX6_follows 113 = .ok (.getfield 35, 3) := by decide +kernel
theorem dX6_follows_116 : decode cX6_follows 116 = .ok (.iload_n 3, 1) := by decide +kernel
theorem dX6_follows_117 : decode cX6_follows 117 = .ok (.iaload, 1) := by decide +kernel
theorem dX6_follows_118 : decode cX6_follows 118 = .ok (.goto 16, 3) := by decide +kernel
theorem dX6_follows_121 : decode cX6_follows 121 = .ok (.aload_n 0, 1) := by decide +kernel
theorem dX6_follows_122 : decode cX6_follows 122 = .ok (.getfield 35, 3) := by decide +kernel
theorem dX6_follows_125 : decode cX6_follows 125 = .ok (.aload_n 0, 1) := by decide +kernel
theorem dX6_follows_126 : decode cX6_follows 126 = .ok (.getfield 138, 3) := by decide +kernel
theorem dX6_follows_129 : decode cX6_follows 129 = .ok (.iconst 1, 1) := by decide +kernel
theorem dX6_follows_130 : decode cX6_follows 130 = .ok (.isub, 1) := by decide +kernel
theorem dX6_follows_131 : decode cX6_follows 131 = .ok (.iload_n 3, 1) := by decide +kernel
theorem dX6_follows_132 : decode cX6_follows 132 = .ok (.isub, 1) := by decide +kernel
theorem dX6_follows_133 : decode cX6_follows 133 = .ok (.iaload, 1) := by decide +kernel
theorem dX6_follows_134 : decode cX6_follows 134 = .ok (.ireturn, 1) := by decide +kernel
set_option maxRecDepth 20000 in
theorem ggX6_meanNow_X6_value : GoodIn wsX6_meanNow wsX6_value := goodIn_r _ [7, 8] (by decide +kernel) (by decide +kernel)
set_option maxRecDepth 20000 in
theorem gX6_meanNow_X6_value : GoodIn wsX6_meanNow (va_wsS RX6 110 yX6_value wsX6_value) := goodIn_app (goodIn_of _ (by decide +kernel)) ggX6_meanNow_X6_value
theorem dX6_meanNow_0 : decode cX6_meanNow 0 = .ok (.fconst 0, 1) := by decide +kernel
theorem dX6_meanNow_1 : decode cX6_meanNow 1 = .ok (.fstore_n 1, 1) := by decide +kernel
theorem dX6_meanNow_2 : decode cX6_meanNow 2 = .ok (.fconst 0, 1) := by decide +kernel
theorem dX6_meanNow_3 : decode cX6_meanNow 3 = .ok (.fstore_n 2, 1) := by decide +kernel
theorem dX6_meanNow_4 : decode cX6_meanNow 4 = .ok (.iconst 0, 1) := by decide +kernel
theorem dX6_meanNow_5 : decode cX6_meanNow 5 = .ok (.istore_n 3, 1) := by decide +kernel
theorem dX6_meanNow_6 : decode cX6_meanNow 6 = .ok (.iload_n 3, 1) := by decide +kernel
theorem dX6_meanNow_7 : decode cX6_meanNow 7 = .ok (.aload_n 0, 1) := by decide +kernel
theorem dX6_meanNow_8 : decode cX6_meanNow 8 = .ok (.getfield 138, 3) := by decide +kernel
theorem dX6_meanNow_11 : decode cX6_meanNow 11 = .ok (.if_icmp .ge 43, 3) := by decide +kernel
theorem dX6_meanNow_14 : decode cX6_meanNow 14 = .ok (.fload_n 1, 1) := by decide +kernel
theorem dX6_meanNow_15 : decode cX6_meanNow 15 = .ok (.aload_n 0, 1) := by decide +kernel
theorem dX6_meanNow_16 : decode cX6_meanNow 16 = .ok (.getfield 29, 3) := by decide +kernel
theorem dX6_meanNow_19 : decode cX6_meanNow 19 = .ok (.iload_n 3, 1) := by decide +kernel
theorem dX6_meanNow_20 : decode cX6_meanNow 20 = .ok (.iaload, 1) := by decide +kernel
theorem dX6_meanNow_21 : decode cX6_meanNow 21 = .ok (.invokestatic 110, 3) := by decide +kernel
theorem dX6_meanNow_24 : decode cX6_meanNow 24 = .ok (.fconst 1, 1) := by decide +kernel
theorem dX6_meanNow_25 : decode cX6_meanNow 25 = .ok (.aload_n 0, 1) := by decide +kernel
theorem dX6_meanNow_26 : decode cX6_meanNow 26 = .ok (.getfield 32, 3) := by decide +kernel
theorem dX6_meanNow_29 : decode cX6_meanNow 29 = .ok (.iload_n 3, 1) := by decide +kernel
theorem dX6_meanNow_30 : decode cX6_meanNow 30 = .ok (.faload, 1) := by decide +kernel
theorem dX6_meanNow_31 : decode cX6_meanNow 31 = .ok (.fadd, 1) := by decide +kernel
theorem dX6_meanNow_32 : decode cX6_meanNow 32 = .ok (.fdiv, 1) := by decide +kernel
theorem dX6_meanNow_33 : decode cX6_meanNow 33 = .ok (.fadd, 1) := by decide +kernel
theorem dX6_meanNow_34 : decode cX6_meanNow 34 = .ok (.fstore_n 1, 1) := by decide +kernel
theorem dX6_meanNow_35 : decode cX6_meanNow 35 = .ok (.fload_n 2, 1) := by decide +kernel
theorem dX6_meanNow_36 : decode cX6_meanNow 36 = .ok (.fconst 1, 1) := by decide +kernel
theorem dX6_meanNow_37 : decode cX6_meanNow 37 = .ok (.fconst 1, 1) := by decide +kernel
theorem dX6_meanNow_38 : decode cX6_meanNow 38 = .ok (.aload_n 0, 1) := by decide +kernel
theorem dX6_meanNow_39 : decode cX6_meanNow 39 = .ok (.getfield 32, 3) := by decide +kernel
theorem dX6_meanNow_42 : decode cX6_meanNow 42 = .ok (.iload_n 3, 1) := by decide +kernel
theorem dX6_meanNow_43 : decode cX6_meanNow 43 = .ok (.faload, 1) := by decide +kernel
theorem dX6_meanNow_44 : decode cX6_meanNow 44 = .ok (.fadd, 1) := by decide +kernel
theorem dX6_meanNow_45 : decode cX6_meanNow 45 = .ok (.fdiv, 1) := by decide +kernel
theorem dX6_meanNow_46 : decode cX6_meanNow 46 = .ok (.fadd, 1) := by decide +kernel
theorem dX6_meanNow_47 : decode cX6_meanNow 47 = .ok (.fstore_n 2, 1) := by decide +kernel
theorem dX6_meanNow_48 : decode cX6_meanNow 48 = .ok (.iinc 3 1, 3) := by decide +kernel
theorem dX6_meanNow_51 : decode cX6_meanNow 51 = .ok (.goto (-45), 3) := by decide +kernel
theorem dX6_meanNow_54 : decode cX6_meanNow 54 = .ok (.fload_n 1, 1) := by decide +kernel
theorem dX6_meanNow_55 : decode cX6_meanNow 55 = .ok (.fload_n 2, 1) := by decide +kernel
theorem dX6_meanNow_56 : decode cX6_meanNow 56 = .ok (.fdiv, 1) := by decide +kernel
theorem dX6_meanNow_57 : decode cX6_meanNow 57 = .ok (.freturn, 1) := by decide +kernel
set_option maxRecDepth 20000 in
theorem ggX6_mean_X6_isDay : GoodIn wsX6_mean wsX6_isDay := goodIn_r _ [6, 7, 8, 9, 5, 10, 72, 73, 74, 75, 76, 77, 78, 79, 80, 81, 82, 83, 84, 85, 86, 87, 88, 89, 90, 91, 92] (by decide +kernel) (by decide +kernel)
set_option maxRecDepth 20000 in
theorem gX6_mean_X6_isDay : GoodIn wsX6_mean (wsV RX6 73 RX6 yX6_isDay wsX6_isDay) := goodIn_app (goodIn_of _ (by decide +kernel)) ggX6_mean_X6_isDay
set_option maxRecDepth 20000 in
theorem ggX6_mean_X6_isMember : GoodIn wsX6_mean wsX6_isMember := goodIn_r _ [13, 8, 9, 5, 10] (by decide +kernel) (by decide +kernel)
set_option maxRecDepth 20000 in
theorem gX6_mean_X6_isMember : GoodIn wsX6_mean (va_wsS RX6 76 yX6_isMember wsX6_isMember) := goodIn_app (goodIn_of _ (by decide +kernel)) ggX6_mean_X6_isMember
set_option maxRecDepth 20000 in
theorem ggX6_mean_X6_bad : GoodIn wsX6_mean wsX6_bad := goodIn_r _ [17, 18, 72, 73, 74, 75, 76, 77, 78, 79, 80, 81, 82, 83, 84, 85, 86, 87, 88, 89, 90, 91, 92] (by decide +kernel) (by decide +kernel)
set_option maxRecDepth 20000 in
theorem gX6_mean_X6_bad : GoodIn wsX6_mean (wsV RX6 59 RX6 yX6_bad wsX6_bad) := goodIn_app (goodIn_of _ (by decide +kernel)) ggX6_mean_X6_bad
set_option maxRecDepth 20000 in
theorem ggX6_mean_X6_setFollowers : GoodIn wsX6_mean wsX6_setFollowers := goodIn_r _ [22, 1, 23, 24, 25, 26, 27, 28, 29, 30, 31, 32, 5, 33, 34, 35, 36, 37, 38, 7, 39, 40, 41, 42, 43, 44, 45, 46, 47, 48, 49, 50, 51, 52, 53, 54, 55, 72, 73, 74, 75, 76, 77, 78, 79, 80, 81, 82, 83, 84, 85, 86, 87, 88, 89, 90, 91, 92] (by decide +kernel) (by decide +kernel)
set_option maxRecDepth 20000 in
theorem gX6_mean_X6_setFollowers : GoodIn wsX6_mean (wsV RX6 141 RX6 yX6_setFollowers wsX6_setFollowers) := goodIn_app (goodIn_of _ (by decide +kernel)) ggX6_mean_X6_setFollowers
set_option maxRecDepth 20000 in
theorem ggX6_mean_X6_meanNow : GoodIn wsX6_mean wsX6_meanNow := goodIn_r _ [59, 1, 26, 27, 52, 53, 5, 54, 55, 72, 73, 74, 75, 76, 77, 78, 79, 80, 81, 82, 83, 84, 85, 86, 87, 88, 89, 90, 91, 92] (by decide +kernel) (by decide +kernel)
set_option maxRecDepth 20000 in
theorem gX6_mean_X6_meanNow : GoodIn wsX6_mean (wsV RX6 145 RX6 yX6_meanNow wsX6_meanNow) := goodIn_app (goodIn_of _ (by decide +kernel)) ggX6_mean_X6_meanNow
set_option maxRecDepth 20000 in
theorem ggX6_mean_Jxf58ca_floatToIntBits_5c35a : GoodIn wsX6_mean wsJxf58ca_floatToIntBits_5c35a := goodIn_r _ [63, 64, 65, 66, 67, 68, 69, 70, 62, 71] (by decide +kernel) (by decide +kernel)
set_option maxRecDepth 20000 in
theorem gX6_mean_Jxf58ca_floatToIntBits_5c35a : GoodIn wsX6_mean (va_wsS RX6 118 yJxf58ca_floatToIntBits_5c35a wsJxf58ca_floatToIntBits_5c35a) := goodIn_app (goodIn_of _ (by decide +kernel)) ggX6_mean_Jxf58ca_floatToIntBits_5c35a
theorem dX6_mean_0 : decode cX6_mean 0 = .ok (.aload_n 0, 1) := by decide +kernel
theorem dX6_mean_1 : decode cX6_mean 1 = .ok (.iload_n 1, 1) := by decide +kernel
theorem dX6_mean_2 : decode cX6_mean 2 = .ok (.invokevirtual 73, 3) := by decide +kernel
theorem dX6_mean_5 : decode cX6_mean 5 = .ok (.ifCond .eq 10, 3) := by decide +kernel
theorem dX6_mean_8 : decode cX6_mean 8 = .ok (.iload_n 2, 1) := by decide +kernel
theorem dX6_mean_9 : decode cX6_mean 9 = .ok (.invokestatic 76, 3) := by decide +kernel
theorem dX6_mean_12 : decode cX6_mean 12 = .ok (.ifCond .ne 8, 3) := by decide +kernel
theorem dX6_mean_15 : decode cX6_mean 15 = .ok (.aload_n 0, 1) := by decide +kernel
theorem dX6_mean_16 : decode cX6_mean 16 = .ok (.invokevirtual 59, 3) := by decide +kernel
theorem dX6_mean_19 : decode cX6_mean 19 = .ok (.ireturn, 1) := by decide +kernel
theorem dX6_mean_20 : decode cX6_mean 20 = .ok (.aload_n 0, 1) := by decide +kernel
theorem dX6_mean_21 : decode cX6_mean 21 = .ok (.iload_n 1, 1) := by decide +kernel
theorem dX6_mean_22 : decode cX6_mean 22 = .ok (.iload_n 2, 1) := by decide +kernel
theorem dX6_mean_23 : decode cX6_mean 23 = .ok (.invokevirtual 141, 3) := by decide +kernel
theorem dX6_mean_26 : decode cX6_mean 26 = .ok (.aload_n 0, 1) := by decide +kernel
theorem dX6_mean_27 : decode cX6_mean 27 = .ok (.getfield 138, 3) := by decide +kernel
theorem dX6_mean_30 : decode cX6_mean 30 = .ok (.ifCond .ne 7, 3) := by decide +kernel
theorem dX6_mean_33 : decode cX6_mean 33 = .ok (.iconst (-1), 1) := by decide +kernel
theorem dX6_mean_34 : decode cX6_mean 34 = .ok (.goto 10, 3) := by decide +kernel
theorem dX6_mean_37 : decode cX6_mean 37 = .ok (.aload_n 0, 1) := by decide +kernel
theorem dX6_mean_38 : decode cX6_mean 38 = .ok (.invokevirtual 145, 3) := by decide +kernel
theorem dX6_mean_41 : decode cX6_mean 41 = .ok (.invokestatic 118, 3) := by decide +kernel
theorem dX6_mean_44 : decode cX6_mean 44 = .ok (.ireturn, 1) := by decide +kernel
set_option maxRecDepth 20000 in
theorem ggX6_spread_X6_isDay : GoodIn wsX6_spread wsX6_isDay := goodIn_r _ [8, 9, 10, 11, 7, 12, 69, 70, 71, 72, 73, 74, 75, 76, 77, 78, 79, 80, 81, 82, 83, 84, 85, 86, 87, 88, 89] (by decide +kernel) (by decide +kernel)
set_option maxRecDepth 20000 in
theorem gX6_spread_X6_isDay : GoodIn wsX6_spread (wsV RX6 73 RX6 yX6_isDay wsX6_isDay) := goodIn_app (goodIn_of _ (by decide +kernel)) ggX6_spread_X6_isDay
set_option maxRecDepth 20000 in
theorem ggX6_spread_X6_isMember : GoodIn wsX6_spread wsX6_isMember := goodIn_r _ [15, 10, 11, 7, 12] (by decide +kernel) (by decide +kernel)
set_option maxRecDepth 20000 in
theorem gX6_spread_X6_isMember : GoodIn wsX6_spread (va_wsS RX6 76 yX6_isMember wsX6_isMember) := goodIn_app (goodIn_of _ (by decide +kernel)) ggX6_spread_X6_isMember
set_option maxRecDepth 20000 in
theorem ggX6_spread_X6_bad : GoodIn wsX6_spread wsX6_bad := goodIn_r _ [19, 20, 69, 70, 71, 72, 73, 74, 75, 76, 77, 78, 79, 80, 81, 82, 83, 84, 85, 86, 87, 88, 89] (by decide +kernel) (by decide +kernel)
set_option maxRecDepth 20000 in
theorem gX6_spread_X6_bad : GoodIn wsX6_spread (wsV RX6 59 RX6 yX6_bad wsX6_bad) := goodIn_app (goodIn_of _ (by decide +kernel)) ggX6_spread_X6_bad
set_option maxRecDepth 20000 in
theorem ggX6_spread_X6_setFollowers : GoodIn wsX6_spread wsX6_setFollowers := goodIn_r _ [24, 1, 25, 26, 27, 3, 28, 29, 30, 31, 32, 33, 7, 34, 35, 36, 37, 38, 39, 9, 40, 41, 42, 43, 44, 45, 46, 47, 48, 49, 50, 51, 52, 53, 54, 55, 56, 69, 70, 71, 72, 73, 74, 75, 76, 77, 78, 79, 80, 81, 82, 83, 84, 85, 86, 87, 88, 89] (by decide +kernel) (by decide +kernel)
set_option maxRecDepth 20000 in
theorem gX6_spread_X6_setFollowers : GoodIn wsX6_spread (wsV RX6 141 RX6 yX6_setFollowers wsX6_setFollowers) := goodIn_app (goodIn_of _ (by decide +kernel)) ggX6_spread_X6_setFollowers
set_option maxRecDepth 20000 in
theorem ggX6_spread_X6_value : GoodIn wsX6_spread wsX6_value := goodIn_r _ [55, 56] (by decide +kernel) (by decide +kernel)
set_option maxRecDepth 20000 in
theorem gX6_spread_X6_value : GoodIn wsX6_spread (va_wsS RX6 110 yX6_value wsX6_value) := goodIn_app (goodIn_of _ (by decide +kernel)) ggX6_spread_X6_value
set_option maxRecDepth 20000 in
theorem ggX6_spread_Jxe99ae_doubleToLongBits_ccdee : GoodIn wsX6_spread wsJxe99ae_doubleToLongBits_ccdee := goodIn_r _ [60, 61, 62, 63, 64, 65, 66, 67, 59, 68] (by decide +kernel) (by decide +kernel)
set_option maxRecDepth 20000 in
theorem gX6_spread_Jxe99ae_doubleToLongBits_ccdee : GoodIn wsX6_spread (va_wsS RX6 151 yJxe99ae_doubleToLongBits_ccdee wsJxe99ae_doubleToLongBits_ccdee) := goodIn_app (goodIn_of _ (by decide +kernel)) ggX6_spread_Jxe99ae_doubleToLongBits_ccdee
theorem dX6_spread_0 : decode cX6_spread 0 = .ok (.aload_n 0, 1) := by decide +kernel
theorem dX6_spread_1 : decode cX6_spread 1 = .ok (.iload_n 1, 1) := by decide +kernel
theorem dX6_spread_2 : decode cX6_spread 2 = .ok (.invokevirtual 73, 3) := by decide +kernel
theorem dX6_spread_5 : decode cX6_spread 5 = .ok (.ifCond .eq 10, 3) := by decide +kernel
theorem dX6_spread_8 : decode cX6_spread 8 = .ok (.iload_n 2, 1) := by decide +kernel
theorem dX6_spread_9 : decode cX6_spread 9 = .ok (.invokestatic 76, 3) := by decide +kernel
theorem dX6_spread_12 : decode cX6_spread 12 = .ok (.ifCond .ne 9, 3) := by decide +kernel
theorem dX6_spread_15 : decode cX6_spread 15 = .ok (.aload_n 0, 1) := by decide +kernel
theorem dX6_spread_16 : decode cX6_spread 16 = .ok (.invokevirtual 59, 3) := by decide +kernel
theorem dX6_spread_19 : decode cX6_spread 19 = .ok (.i2l, 1) := by decide +kernel
theorem dX6_spread_20 : decode cX6_spread 20 = .ok (.lreturn, 1) := by decide +kernel
theorem dX6_spread_21 : decode cX6_spread 21 = .ok (.aload_n 0, 1) := by decide +kernel
theorem dX6_spread_22 : decode cX6_spread 22 = .ok (.iload_n 1, 1) := by decide +kernel
theorem dX6_spread_23 : decode cX6_spread 23 = .ok (.iload_n 2, 1) := by decide +kernel
theorem dX6_spread_24 : decode cX6_spread 24 = .ok (.invokevirtual 141, 3) := by decide +kernel
theorem dX6_spread_27 : decode cX6_spread 27 = .ok (.aload_n 0, 1) := by decide +kernel
theorem dX6_spread_28 : decode cX6_spread 28 = .ok (.getfield 138, 3) := by decide +kernel
theorem dX6_spread_31 : decode cX6_spread 31 = .ok (.ifCond .ne 7, 3) := by decide +kernel
theorem dX6_spread_34 : decode cX6_spread 34 = .ok (.ldc2_w 149, 3) := by decide +kernel
theorem dX6_spread_37 : decode cX6_spread 37 = .ok (.lreturn, 1) := by decide +kernel
theorem dX6_spread_38 : decode cX6_spread 38 = .ok (.dconst 0, 1) := by decide +kernel
theorem dX6_spread_39 : decode cX6_spread 39 = .ok (.dstore_n 3, 1) := by decide +kernel
theorem dX6_spread_40 : decode cX6_spread 40 = .ok (.dconst 0, 1) := by decide +kernel
theorem dX6_spread_41 : decode cX6_spread 41 = .ok (.dstore 5, 2) := by decide +kernel
theorem dX6_spread_43 : decode cX6_spread 43 = .ok (.aload_n 0, 1) := by decide +kernel
theorem dX6_spread_44 : decode cX6_spread 44 = .ok (.getfield 138, 3) := by decide +kernel
theorem dX6_spread_47 : decode cX6_spread 47 = .ok (.i2d, 1) := by decide +kernel
theorem dX6_spread_48 : decode cX6_spread 48 = .ok (.dstore 7, 2) := by decide +kernel
theorem dX6_spread_50 : decode cX6_spread 50 = .ok (.iconst 0, 1) := by decide +kernel
theorem dX6_spread_51 : decode cX6_spread 51 = .ok (.istore 9, 2) := by decide +kernel
theorem dX6_spread_53 : decode cX6_spread 53 = .ok (.iload 9, 2) := by decide +kernel
theorem dX6_spread_55 : decode cX6_spread 55 = .ok (.aload_n 0, 1) := by decide +kernel
theorem dX6_spread_56 : decode cX6_spread 56 = .ok (.getfield 138, 3) := by decide +kernel
theorem dX6_spread_59 : decode cX6_spread 59 = .ok (.if_icmp .ge 37, 3) := by decide +kernel
theorem dX6_spread_62 : decode cX6_spread 62 = .ok (.aload_n 0, 1) := by decide +kernel
theorem dX6_spread_63 : decode cX6_spread 63 = .ok (.getfield 29, 3) := by decide +kernel
theorem dX6_spread_66 : decode cX6_spread 66 = .ok (.iload 9, 2) := by decide +kernel
theorem dX6_spread_68 : decode cX6_spread 68 = .ok (.iaload, 1) := by decide +kernel
theorem dX6_spread_69 : decode cX6_spread 69 = .ok (.invokestatic 110, 3) := by decide +kernel
theorem dX6_spread_72 : decode cX6_spread 72 = .ok (.f2d, 1) := by decide +kernel
theorem dX6_spread_73 : decode cX6_spread 73 = .ok (.dstore 10, 2) := by decide +kernel
theorem dX6_spread_75 : decode cX6_spread 75 = .ok (.dload_n 3, 1) := by decide +kernel
theorem dX6_spread_76 : decode cX6_spread 76 = .ok (.dload 10, 2) := by decide +kernel
theorem dX6_spread_78 : decode cX6_spread 78 = .ok (.dadd, 1) := by decide +kernel
theorem dX6_spread_79 : decode cX6_spread 79 = .ok (.dstore_n 3, 1) := by decide +kernel
theorem dX6_spread_80 : decode cX6_spread 80 = .ok (.dload 5, 2) := by decide +kernel
theorem dX6_spread_82 : decode cX6_spread 82 = .ok (.dload 10, 2) := by decide +kernel
theorem dX6_spread_84 : decode cX6_spread 84 = .ok (.dload 10, 2) := by decide +kernel
theorem dX6_spread_86 : decode cX6_spread 86 = .ok (.dmul, 1) := by decide +kernel
theorem dX6_spread_87 : decode cX6_spread 87 = .ok (.dadd, 1) := by decide +kernel
theorem dX6_spread_88 : decode cX6_spread 88 = .ok (.dstore 5, 2) := by decide +kernel
theorem dX6_spread_90 : decode cX6_spread 90 = .ok (.iinc 9 1, 3) := by decide +kernel
theorem dX6_spread_93 : decode cX6_spread 93 = .ok (.goto (-40), 3) := by decide +kernel
theorem dX6_spread_96 : decode cX6_spread 96 = .ok (.dload 5, 2) := by decide +kernel
theorem dX6_spread_98 : decode cX6_spread 98 = .ok (.dload 7, 2) := by decide +kernel
theorem dX6_spread_100 : decode cX6_spread 100 = .ok (.ddiv, 1) := by decide +kernel
theorem dX6_spread_101 : decode cX6_spread 101 = .ok (.dload_n 3, 1) := by decide +kernel
theorem dX6_spread_102 : decode cX6_spread 102 = .ok (.dload 7, 2) := by decide +kernel
theorem dX6_spread_104 : decode cX6_spread 104 = .ok (.ddiv, 1) := by decide +kernel
theorem dX6_spread_105 : decode cX6_spread 105 = .ok (.dload_n 3, 1) := by decide +kernel
theorem dX6_spread_106 : decode cX6_spread 106 = .ok (.dload 7, 2) := by decide +kernel
theorem dX6_spread_108 : decode cX6_spread 108 = .ok (.ddiv, 1) := by decide +kernel
theorem dX6_spread_109 : decode cX6_spread 109 = .ok (.dmul, 1) := by decide +kernel
theorem dX6_spread_110 : decode cX6_spread 110 = .ok (.dsub, 1) := by decide +kernel
theorem dX6_spread_111 : decode cX6_spread 111 = .ok (.invokestatic 151, 3) := by decide +kernel
theorem dX6_spread_114 : decode cX6_spread 114 = .ok (.lreturn, 1) := by decide +kernel
set_option maxRecDepth 20000 in
theorem ggX6_holds_X6_isMember : GoodIn wsX6_holds wsX6_isMember := goodIn_r _ [8, 9, 10, 7, 11] (by decide +kernel) (by decide +kernel)
set_option maxRecDepth 20000 in
theorem gX6_holds_X6_isMember : GoodIn wsX6_holds (va_wsS RX6 76 yX6_isMember wsX6_isMember) := goodIn_app (goodIn_of _ (by decide +kernel)) ggX6_holds_X6_isMember
set_option maxRecDepth 20000 in
theorem ggX6_holds_X6_in : GoodIn wsX6_holds wsX6_in := goodIn_r _ [11] (by decide +kernel) (by decide +kernel)
set_option maxRecDepth 20000 in
theorem gX6_holds_X6_in : GoodIn wsX6_holds (va_wsS RX6 44 yX6_in wsX6_in) := goodIn_app (goodIn_of _ (by decide +kernel)) ggX6_holds_X6_in
set_option maxRecDepth 20000 in
theorem ggX6_holds_X6_bad : GoodIn wsX6_holds wsX6_bad := goodIn_r _ [15, 16, 52, 53, 54, 55, 56, 57, 58, 59, 60, 61, 62, 63, 64, 65, 66, 67, 68, 69, 70, 71, 72] (by decide +kernel) (by decide +kernel)
set_option maxRecDepth 20000 in
theorem gX6_holds_X6_bad : GoodIn wsX6_holds (wsV RX6 59 RX6 yX6_bad wsX6_bad) := goodIn_app (goodIn_of _ (by decide +kernel)) ggX6_holds_X6_bad
set_option maxRecDepth 20000 in
theorem ggX6_holds_X6_setFollowers : GoodIn wsX6_holds wsX6_setFollowers := goodIn_r _ [20, 3, 21, 2, 22, 23, 24, 25, 4, 26, 27, 28, 7, 29, 30, 31, 32, 33, 34, 1, 35, 36, 37, 38, 39, 40, 41, 42, 43, 44, 45, 46, 47, 48, 49, 50, 51, 52, 53, 54, 55, 56, 57, 58, 59, 60, 61, 62, 63, 64, 65, 66, 67, 68, 69, 70, 71, 72] (by decide +kernel) (by decide +kernel)
set_option maxRecDepth 20000 in
theorem gX6_holds_X6_setFollowers : GoodIn wsX6_holds (wsV RX6 141 RX6 yX6_setFollowers wsX6_setFollowers) := goodIn_app (goodIn_of _ (by decide +kernel)) ggX6_holds_X6_setFollowers
set_option maxRecDepth 20000 in
theorem ggX6_holds_X6_isNoted : GoodIn wsX6_holds wsX6_isNoted := goodIn_r _ [47] (by decide +kernel) (by decide +kernel)
set_option maxRecDepth 20000 in
theorem gX6_holds_X6_isNoted : GoodIn wsX6_holds (va_wsS RX6 106 yX6_isNoted wsX6_isNoted) := goodIn_app (goodIn_of _ (by decide +kernel)) ggX6_holds_X6_isNoted
theorem dX6_holds_0 : decode cX6_holds 0 = .ok (.iload_n 1, 1) := by decide +kernel
theorem dX6_holds_1 : decode cX6_holds 1 = .ok (.invokestatic 76, 3) := by decide +kernel
theorem dX6_holds_4 : decode cX6_holds 4 = .ok (.ifCond .eq 21, 3) := by decide +kernel
theorem dX6_holds_7 : decode cX6_holds 7 = .ok (.iload_n 2, 1) := by decide +kernel
theorem dX6_holds_8 : decode cX6_holds 8 = .ok (.iconst 0, 1) := by decide +kernel
theorem dX6_holds_9 : decode cX6_holds 9 = .ok (.iconst 5, 1) := by decide +kernel
theorem dX6_holds_10 : decode cX6_holds 10 = .ok (.invokestatic 44, 3) := by decide +kernel
theorem dX6_holds_13 : decode cX6_holds 13 = .ok (.ifCond .eq 12, 3) := by decide +kernel
theorem dX6_holds_16 : decode cX6_holds 16 = .ok (.iload_n 3, 1) := by decide +kernel
theorem dX6_holds_17 : decode cX6_holds 17 = .ok (.iconst 0, 1) := by decide +kernel
theorem dX6_holds_18 : decode cX6_holds 18 = .ok (.iconst 2, 1) := by decide +kernel
theorem dX6_holds_19 : decode cX6_holds 19 = .ok (.invokestatic 44, 3) := by decide +kernel
theorem dX6_holds_22 : decode cX6_holds 22 = .ok (.ifCond .ne 8, 3) := by decide +kernel
theorem dX6_holds_25 : decode cX6_holds 25 = .ok (.aload_n 0, 1) := by decide +kernel
theorem dX6_holds_26 : decode cX6_holds 26 = .ok (.invokevirtual 59, 3) := by decide +kernel
theorem dX6_holds_29 : decode cX6_holds 29 = .ok (.ireturn, 1) := by decide +kernel
theorem dX6_holds_30 : decode cX6_holds 30 = .ok (.iconst 0, 1) := by decide +kernel
theorem dX6_holds_31 : decode cX6_holds 31 = .ok (.istore 4, 2) := by decide +kernel
theorem dX6_holds_33 : decode cX6_holds 33 = .ok (.iconst 0, 1) := by decide +kernel
theorem dX6_holds_34 : decode cX6_holds 34 = .ok (.istore 5, 2) := by decide +kernel
theorem dX6_holds_36 : decode cX6_holds 36 = .ok (.iconst 0, 1) := by decide +kernel
theorem dX6_holds_37 : decode cX6_holds 37 = .ok (.istore 6, 2) := by decide +kernel
theorem dX6_holds_39 : decode cX6_holds 39 = .ok (.iload 6, 2) := by decide +kernel
theorem dX6_holds_41 : decode cX6_holds 41 = .ok (.iconst 1, 1) := by decide +kernel
theorem dX6_holds_42 : decode cX6_holds 42 = .ok (.iadd, 1) := by decide +kernel
theorem dX6_holds_43 : decode cX6_holds 43 = .ok (.aload_n 0, 1) := by decide +kernel
theorem dX6_holds_44 : decode cX6_holds 44 = .ok (.getfield 48, 3) := by decide +kernel
theorem dX6_holds_47 : decode cX6_holds 47 = .ok (.if_icmp .ge 89, 3) := by decide +kernel
theorem dX6_holds_50 : decode cX6_holds 50 = .ok (.aload_n 0, 1) := by decide +kernel
theorem dX6_holds_51 : decode cX6_holds 51 = .ok (.getfield 16, 3) := by decide +kernel
theorem dX6_holds_54 : decode cX6_holds 54 = .ok (.iconst 4, 1) := by decide +kernel
theorem dX6_holds_55 : decode cX6_holds 55 = .ok (.iload 6, 2) := by decide +kernel
theorem dX6_holds_57 : decode cX6_holds 57 = .ok (.iconst 1, 1) := by decide +kernel
theorem dX6_holds_58 : decode cX6_holds 58 = .ok (.iadd, 1) := by decide +kernel
theorem dX6_holds_59 : decode cX6_holds 59 = .ok (.imul, 1) := by decide +kernel
theorem dX6_holds_60 : decode cX6_holds 60 = .ok (.iload_n 1, 1) := by decide +kernel
theorem dX6_holds_61 : decode cX6_holds 61 = .ok (.iadd, 1) := by decide +kernel
theorem dX6_holds_62 : decode cX6_holds 62 = .ok (.iaload, 1) := by decide +kernel
theorem dX6_holds_63 : decode cX6_holds 63 = .ok (.istore 7, 2) := by decide +kernel
theorem dX6_holds_65 : decode cX6_holds 65 = .ok (.aload_n 0, 1) := by decide +kernel
theorem dX6_holds_66 : decode cX6_holds 66 = .ok (.iload 6, 2) := by decide +kernel
theorem dX6_holds_68 : decode cX6_holds 68 = .ok (.iload_n 1, 1) := by decide +kernel
theorem dX6_holds_69 : decode cX6_holds 69 = .ok (.invokevirtual 141, 3) := by decide +kernel
theorem dX6_holds_72 : decode cX6_holds 72 = .ok (.iload 7, 2) := by decide +kernel
theorem dX6_holds_74 : decode cX6_holds 74 = .ok (.invokestatic 106, 3) := by decide +kernel
theorem dX6_holds_77 : decode cX6_holds 77 = .ok (.ifCond .eq 53, 3) := by decide +kernel
theorem dX6_holds_80 : decode cX6_holds 80 = .ok (.aload_n 0, 1) := by decide +kernel
theorem dX6_holds_81 : decode cX6_holds 81 = .ok (.getfield 138, 3) := by decide +kernel
theorem dX6_holds_84 : decode cX6_holds 84 = .ok (.iconst 2, 1) := by decide +kernel
theorem dX6_holds_85 : decode cX6_holds 85 = .ok (.iload_n 2, 1) := by decide +kernel
theorem dX6_holds_86 : decode cX6_holds 86 = .ok (.imul, 1) := by decide +kernel
theorem dX6_holds_87 : decode cX6_holds 87 = .ok (.if_icmp .le 43, 3) := by decide +kernel
theorem dX6_holds_90 : decode cX6_holds 90 = .ok (.iinc 4 1, 3) := by decide +kernel
theorem dX6_holds_93 : decode cX6_holds 93 = .ok (.iload 5, 2) := by decide +kernel
theorem dX6_holds_95 : decode cX6_holds 95 = .ok (.iload 7, 2) := by decide +kernel
theorem dX6_holds_97 : decode cX6_holds 97 = .ok (.aload_n 0, 1) := by decide +kernel
theorem dX6_holds_98 : decode cX6_holds 98 = .ok (.getfield 35, 3) := by decide +kernel
theorem dX6_holds_101 : decode cX6_holds 101 = .ok (.iload_n 2, 1) := by decide +kernel
theorem dX6_holds_102 : decode cX6_holds 102 = .ok (.iaload, 1) := by decide +kernel
theorem dX6_holds_103 : decode cX6_holds 103 = .ok (.aload_n 0, 1) := by decide +kernel
theorem dX6_holds_104 : decode cX6_holds 104 = .ok (.getfield 35, 3) := by decide +kernel
theorem dX6_holds_107 : decode cX6_holds 107 = .ok (.aload_n 0, 1) := by decide +kernel
theorem dX6_holds_108 : decode cX6_holds 108 = .ok (.getfield 138, 3) := by decide +kernel
theorem dX6_holds_111 : decode cX6_holds 111 = .ok (.iconst 1, 1) := by decide +kernel
theorem dX6_holds_112 : decode cX6_holds 112 = .ok (.isub, 1) := by decide +kernel
theorem dX6_holds_113 : decode cX6_holds 113 = .ok (.iload_n 2, 1) := by decide +kernel
theorem dX6_holds_114 : decode cX6_holds 114 = .ok (.isub, 1) := by decide +kernel
theorem dX6_holds_115 : decode cX6_holds 115 = .ok (.iaload, 1) := by decide +kernel
theorem dX6_holds_116 : decode cX6_holds 116 = .ok (.invokestatic 44, 3) := by decide +kernel
theorem dX6_holds_119 : decode cX6_holds 119 = .ok (.ifCond .eq 7, 3) := by decide +kernel
theorem dX6_holds_122 : decode cX6_holds 122 = .ok (.iconst 1, 1) := by decide +kernel
theorem dX6_holds_123 : decode cX6_holds 123 = .ok (.goto 4, 3) := by decide +kernel
theorem dX6_holds_126 : decode cX6_holds 126 = .ok (.iconst 0, 1) := by decide +kernel
theorem dX6_holds_127 : decode cX6_holds 127 = .ok (.iadd, 1) := by decide +kernel
theorem dX6_holds_128 : decode cX6_holds 128 = .ok (.istore 5, 2) := by decide +kernel
theorem dX6_holds_130 : decode cX6_holds 130 = .ok (.iinc 6 1, 3) := by decide +kernel
theorem dX6_holds_133 : decode cX6_holds 133 = .ok (.goto (-94), 3) := by decide +kernel
theorem dX6_holds_136 : decode cX6_holds 136 = .ok (.iload_n 3, 1) := by decide +kernel
theorem dX6_holds_137 : decode cX6_holds 137 = .ok (.ifCond .ne 8, 3) := by decide +kernel
theorem dX6_holds_140 : decode cX6_holds 140 = .ok (.iload 4, 2) := by decide +kernel
theorem dX6_holds_142 : decode cX6_holds 142 = .ok (.goto 31, 3) := by decide +kernel
theorem dX6_holds_145 : decode cX6_holds 145 = .ok (.iload_n 3, 1) := by decide +kernel
theorem dX6_holds_146 : decode cX6_holds 146 = .ok (.iconst 1, 1) := by decide +kernel
theorem dX6_holds_147 : decode cX6_holds 147 = .ok (.if_icmp .ne 8, 3) := by decide +kernel
theorem dX6_holds_150 : decode cX6_holds 150 = .ok (.iload 5, 2) := by decide +kernel
theorem dX6_holds_152 : decode cX6_holds 152 = .ok (.goto 21, 3) := by decide +kernel
theorem dX6_holds_155 : decode cX6_holds 155 = .ok (.iload 4, 2) := by decide +kernel
theorem dX6_holds_157 : decode cX6_holds 157 = .ok (.ifCond .ne 7, 3) := by decide +kernel
theorem dX6_holds_160 : decode cX6_holds 160 = .ok (.iconst 0, 1) := by decide +kernel
theorem dX6_holds_161 : decode cX6_holds 161 = .ok (.goto 12, 3) := by decide +kernel
theorem dX6_holds_164 : decode cX6_holds 164 = .ok (.sipush 1000, 3) := by decide +kernel
theorem dX6_holds_167 : decode cX6_holds 167 = .ok (.iload 5, 2) := by decide +kernel
theorem dX6_holds_169 : decode cX6_holds 169 = .ok (.imul, 1) := by decide +kernel
theorem dX6_holds_170 : decode cX6_holds 170 = .ok (.iload 4, 2) := by decide +kernel
theorem dX6_holds_172 : decode cX6_holds 172 = .ok (.idiv, 1) := by decide +kernel
theorem dX6_holds_173 : decode cX6_holds 173 = .ok (.ireturn, 1) := by decide +kernel
set_option maxRecDepth 20000 in
theorem ggX6_errsOf_X6_setFollowers : GoodIn wsX6_errsOf wsX6_setFollowers := goodIn_r _ [9, 4, 10, 3, 11, 12, 13, 14, 15, 16, 17, 18, 8, 19, 20, 21, 22, 23, 24, 2, 25, 26, 27, 28, 29, 30, 31, 32, 33, 34, 35, 36, 37, 38, 39, 40, 41, 46, 47, 48, 49, 50, 51, 52, 53, 54, 55, 56, 57, 58, 59, 60, 61, 62, 63, 64, 65, 66] (by decide +kernel) (by decide +kernel)
set_option maxRecDepth 20000 in
theorem gX6_errsOf_X6_setFollowers : GoodIn wsX6_errsOf (wsV RX6 141 RX6 yX6_setFollowers wsX6_setFollowers) := goodIn_app (goodIn_of _ (by decide +kernel)) ggX6_errsOf_X6_setFollowers
set_option maxRecDepth 20000 in
theorem ggX6_errsOf_X6_isNoted : GoodIn wsX6_errsOf wsX6_isNoted := goodIn_r _ [37] (by decide +kernel) (by decide +kernel)
set_option maxRecDepth 20000 in
theorem gX6_errsOf_X6_isNoted : GoodIn wsX6_errsOf (va_wsS RX6 106 yX6_isNoted wsX6_isNoted) := goodIn_app (goodIn_of _ (by decide +kernel)) ggX6_errsOf_X6_isNoted
set_option maxRecDepth 20000 in
theorem ggX6_errsOf_X6_meanNow : GoodIn wsX6_errsOf wsX6_meanNow := goodIn_r _ [45, 4, 12, 13, 38, 39, 8, 40, 41, 46, 47, 48, 49, 50, 51, 52, 53, 54, 55, 56, 57, 58, 59, 60, 61, 62, 63, 64, 65, 66] (by decide +kernel) (by decide +kernel)
set_option maxRecDepth 20000 in
theorem gX6_errsOf_X6_meanNow : GoodIn wsX6_errsOf (wsV RX6 145 RX6 yX6_meanNow wsX6_meanNow) := goodIn_app (goodIn_of _ (by decide +kernel)) ggX6_errsOf_X6_meanNow
set_option maxRecDepth 20000 in
theorem ggX6_errsOf_X6_value : GoodIn wsX6_errsOf wsX6_value := goodIn_r _ [40, 41] (by decide +kernel) (by decide +kernel)
set_option maxRecDepth 20000 in
theorem gX6_errsOf_X6_value : GoodIn wsX6_errsOf (va_wsS RX6 110 yX6_value wsX6_value) := goodIn_app (goodIn_of _ (by decide +kernel)) ggX6_errsOf_X6_value
theorem dX6_errsOf_0 : decode cX6_errsOf 0 = .ok (.fconst 0, 1) := by decide +kernel
theorem dX6_errsOf_1 : decode cX6_errsOf 1 = .ok (.fstore_n 2, 1) := by decide +kernel
theorem dX6_errsOf_2 : decode cX6_errsOf 2 = .ok (.aload_n 0, 1) := by decide +kernel
theorem dX6_errsOf_3 : decode cX6_errsOf 3 = .ok (.iconst 0, 1) := by decide +kernel
theorem dX6_errsOf_4 : decode cX6_errsOf 4 = .ok (.putfield 157, 3) := by decide +kernel
theorem dX6_errsOf_7 : decode cX6_errsOf 7 = .ok (.iconst 0, 1) := by decide +kernel
theorem dX6_errsOf_8 : decode cX6_errsOf 8 = .ok (.istore_n 3, 1) := by decide +kernel
theorem dX6_errsOf_9 : decode cX6_errsOf 9 = .ok (.iload_n 3, 1) := by decide +kernel
theorem dX6_errsOf_10 : decode cX6_errsOf 10 = .ok (.iconst 1, 1) := by decide +kernel
theorem dX6_errsOf_11 : decode cX6_errsOf 11 = .ok (.iadd, 1) := by decide +kernel
theorem dX6_errsOf_12 : decode cX6_errsOf 12 = .ok (.aload_n 0, 1) := by decide +kernel
theorem dX6_errsOf_13 : decode cX6_errsOf 13 = .ok (.getfield 48, 3) := by decide +kernel
theorem dX6_errsOf_16 : decode cX6_errsOf 16 = .ok (.if_icmp .ge 84, 3) := by decide +kernel
theorem dX6_errsOf_19 : decode cX6_errsOf 19 = .ok (.aload_n 0, 1) := by decide +kernel
theorem dX6_errsOf_20 : decode cX6_errsOf 20 = .ok (.getfield 16, 3) := by decide +kernel
theorem dX6_errsOf_23 : decode cX6_errsOf 23 = .ok (.iconst 4, 1) := by decide +kernel
theorem dX6_errsOf_24 : decode cX6_errsOf 24 = .ok (.iload_n 3, 1) := by decide +kernel
theorem dX6_errsOf_25 : decode cX6_errsOf 25 = .ok (.iconst 1, 1) := by decide +kernel
theorem dX6_errsOf_26 : decode cX6_errsOf 26 = .ok (.iadd, 1) := by decide +kernel
theorem dX6_errsOf_27 : decode cX6_errsOf 27 = .ok (.imul, 1) := by decide +kernel
theorem dX6_errsOf_28 : decode cX6_errsOf 28 = .ok (.iload_n 1, 1) := by decide +kernel
theorem dX6_errsOf_29 : decode cX6_errsOf 29 = .ok (.iadd, 1) := by decide +kernel
theorem dX6_errsOf_30 : decode cX6_errsOf 30 = .ok (.iaload, 1) := by decide +kernel
theorem dX6_errsOf_31 : decode cX6_errsOf 31 = .ok (.istore 4, 2) := by decide +kernel
theorem dX6_errsOf_33 : decode cX6_errsOf 33 = .ok (.aload_n 0, 1) := by decide +kernel
theorem dX6_errsOf_34 : decode cX6_errsOf 34 = .ok (.iload_n 3, 1) := by decide +kernel
theorem dX6_errsOf_35 : decode cX6_errsOf 35 = .ok (.iload_n 1, 1) := by decide +kernel
theorem dX6_errsOf_36 : decode cX6_errsOf 36 = .ok (.invokevirtual 141, 3) := by decide +kernel
theorem dX6_errsOf_39 : decode cX6_errsOf 39 = .ok (.iload 4, 2) := by decide +kernel
theorem dX6_errsOf_41 : decode cX6_errsOf 41 = .ok (.invokestatic 106, 3) := by decide +kernel
theorem dX6_errsOf_44 : decode cX6_errsOf 44 = .ok (.ifCond .eq 50, 3) := by decide +kernel
theorem dX6_errsOf_47 : decode cX6_errsOf 47 = .ok (.aload_n 0, 1) := by decide +kernel
theorem dX6_errsOf_48 : decode cX6_errsOf 48 = .ok (.getfield 138, 3) := by decide +kernel
theorem dX6_errsOf_51 : decode cX6_errsOf 51 = .ok (.ifCond .le 43, 3) := by decide +kernel
theorem dX6_errsOf_54 : decode cX6_errsOf 54 = .ok (.aload_n 0, 1) := by decide +kernel
theorem dX6_errsOf_55 : decode cX6_errsOf 55 = .ok (.invokevirtual 145, 3) := by decide +kernel
theorem dX6_errsOf_58 : decode cX6_errsOf 58 = .ok (.iload 4, 2) := by decide +kernel
theorem dX6_errsOf_60 : decode cX6_errsOf 60 = .ok (.invokestatic 110, 3) := by decide +kernel
theorem dX6_errsOf_63 : decode cX6_errsOf 63 = .ok (.fsub, 1) := by decide +kernel
theorem dX6_errsOf_64 : decode cX6_errsOf 64 = .ok (.fstore 5, 2) := by decide +kernel
theorem dX6_errsOf_66 : decode cX6_errsOf 66 = .ok (.fload_n 2, 1) := by decide +kernel
theorem dX6_errsOf_67 : decode cX6_errsOf 67 = .ok (.fload 5, 2) := by decide +kernel
theorem dX6_errsOf_69 : decode cX6_errsOf 69 = .ok (.fconst 0, 1) := by decide +kernel
theorem dX6_errsOf_70 : decode cX6_errsOf 70 = .ok (.fcmp .g, 1) := by decide +kernel
theorem dX6_errsOf_71 : decode cX6_errsOf 71 = .ok (.ifCond .ge 9, 3) := by decide +kernel
theorem dX6_errsOf_74 : decode cX6_errsOf 74 = .ok (.fload 5, 2) := by decide +kernel
theorem dX6_errsOf_76 : decode cX6_errsOf 76 = .ok (.fneg, 1) := by decide +kernel
theorem dX6_errsOf_77 : decode cX6_errsOf 77 = .ok (.goto 5, 3) := by decide +kernel
theorem dX6_errsOf_80 : decode cX6_errsOf 80 = .ok (.fload 5, 2) := by decide +kernel
theorem dX6_errsOf_82 : decode cX6_errsOf 82 = .ok (.fadd, 1) := by decide +kernel
theorem dX6_errsOf_83 : decode cX6_errsOf 83 = .ok (.fstore_n 2, 1) := by decide +kernel
theorem dX6_errsOf_84 : decode cX6_errsOf 84 = .ok (.aload_n 0, 1) := by decide +kernel
theorem dX6_errsOf_85 : decode cX6_errsOf 85 = .ok (.dup, 1) := by decide +kernel
theorem dX6_errsOf_86 : decode cX6_errsOf 86 = .ok (.getfield 157, 3) := by decide +kernel
theorem dX6_errsOf_89 : decode cX6_errsOf 89 = .ok (.iconst 1, 1) := by decide +kernel
theorem dX6_errsOf_90 : decode cX6_errsOf 90 = .ok (.iadd, 1) := by decide +kernel
theorem dX6_errsOf_91 : decode cX6_errsOf 91 = .ok (.putfield 157, 3) := by decide +kernel
theorem dX6_errsOf_94 : decode cX6_errsOf 94 = .ok (.iinc 3 1, 3) := by decide +kernel
theorem dX6_errsOf_97 : decode cX6_errsOf 97 = .ok (.goto (-88), 3) := by decide +kernel
theorem dX6_errsOf_100 : decode cX6_errsOf 100 = .ok (.aload_n 0, 1) := by decide +kernel
theorem dX6_errsOf_101 : decode cX6_errsOf 101 = .ok (.getfield 157, 3) := by decide +kernel
theorem dX6_errsOf_104 : decode cX6_errsOf 104 = .ok (.ifCond .ne 7, 3) := by decide +kernel
theorem dX6_errsOf_107 : decode cX6_errsOf 107 = .ok (.fconst 0, 1) := by decide +kernel
theorem dX6_errsOf_108 : decode cX6_errsOf 108 = .ok (.goto 10, 3) := by decide +kernel
theorem dX6_errsOf_111 : decode cX6_errsOf 111 = .ok (.fload_n 2, 1) := by decide +kernel
theorem dX6_errsOf_112 : decode cX6_errsOf 112 = .ok (.aload_n 0, 1) := by decide +kernel
theorem dX6_errsOf_113 : decode cX6_errsOf 113 = .ok (.getfield 157, 3) := by decide +kernel
theorem dX6_errsOf_116 : decode cX6_errsOf 116 = .ok (.i2f, 1) := by decide +kernel
theorem dX6_errsOf_117 : decode cX6_errsOf 117 = .ok (.fdiv, 1) := by decide +kernel
theorem dX6_errsOf_118 : decode cX6_errsOf 118 = .ok (.freturn, 1) := by decide +kernel
set_option maxRecDepth 20000 in
theorem ggX6_errsTold_X6_errsOf : GoodIn wsX6_errsTold wsX6_errsOf := goodIn_r _ [6, 1, 7, 8, 9, 10, 11, 12, 5, 13, 14, 15, 16, 17, 18, 19, 20, 21, 22, 23, 24, 25, 26, 27, 28, 29, 30, 31, 32, 33, 34, 35, 36, 37, 38, 39, 40, 41, 42, 43, 44, 45, 46, 47, 48, 49, 62, 63, 64, 65, 66, 67, 68, 69, 70, 71, 72, 73, 74, 75, 76, 77, 78, 79, 80, 81, 82] (by decide +kernel) (by decide +kernel)
set_option maxRecDepth 20000 in
theorem gX6_errsTold_X6_errsOf : GoodIn wsX6_errsTold (wsV RX6 160 RX6 yX6_errsOf wsX6_errsOf) := goodIn_app (goodIn_of _ (by decide +kernel)) ggX6_errsTold_X6_errsOf
set_option maxRecDepth 20000 in
theorem ggX6_errsTold_Jxf58ca_floatToIntBits_5c35a : GoodIn wsX6_errsTold wsJxf58ca_floatToIntBits_5c35a := goodIn_r _ [53, 54, 55, 56, 57, 58, 59, 60, 52, 61] (by decide +kernel) (by decide +kernel)
set_option maxRecDepth 20000 in
theorem gX6_errsTold_Jxf58ca_floatToIntBits_5c35a : GoodIn wsX6_errsTold (va_wsS RX6 118 yJxf58ca_floatToIntBits_5c35a wsJxf58ca_floatToIntBits_5c35a) := goodIn_app (goodIn_of _ (by decide +kernel)) ggX6_errsTold_Jxf58ca_floatToIntBits_5c35a
theorem dX6_errsTold_0 : decode cX6_errsTold 0 = .ok (.aload_n 0, 1) := by decide +kernel
theorem dX6_errsTold_1 : decode cX6_errsTold 1 = .ok (.iload_n 1, 1) := by decide +kernel
theorem dX6_errsTold_2 : decode cX6_errsTold 2 = .ok (.invokevirtual 160, 3) := by decide +kernel
theorem dX6_errsTold_5 : decode cX6_errsTold 5 = .ok (.fstore_n 2, 1) := by decide +kernel
theorem dX6_errsTold_6 : decode cX6_errsTold 6 = .ok (.aload_n 0, 1) := by decide +kernel
theorem dX6_errsTold_7 : decode cX6_errsTold 7 = .ok (.getfield 157, 3) := by decide +kernel
theorem dX6_errsTold_10 : decode cX6_errsTold 10 = .ok (.ifCond .ne 7, 3) := by decide +kernel
theorem dX6_errsTold_13 : decode cX6_errsTold 13 = .ok (.iconst (-1), 1) := by decide +kernel
theorem dX6_errsTold_14 : decode cX6_errsTold 14 = .ok (.goto 7, 3) := by decide +kernel
theorem dX6_errsTold_17 : decode cX6_errsTold 17 = .ok (.fload_n 2, 1) := by decide +kernel
theorem dX6_errsTold_18 : decode cX6_errsTold 18 = .ok (.invokestatic 118, 3) := by decide +kernel
theorem dX6_errsTold_21 : decode cX6_errsTold 21 = .ok (.ireturn, 1) := by decide +kernel
set_option maxRecDepth 20000 in
theorem ggX6_errs_X6_isMember : GoodIn wsX6_errs wsX6_isMember := goodIn_r _ [4, 5, 6, 3, 7] (by decide +kernel) (by decide +kernel)
set_option maxRecDepth 20000 in
theorem gX6_errs_X6_isMember : GoodIn wsX6_errs (va_wsS RX6 76 yX6_isMember wsX6_isMember) := goodIn_app (goodIn_of _ (by decide +kernel)) ggX6_errs_X6_isMember
set_option maxRecDepth 20000 in
theorem ggX6_errs_X6_errsTold : GoodIn wsX6_errs wsX6_errsTold := goodIn_r _ [11, 12, 13, 14, 15, 3, 16, 17, 18, 19, 20, 21, 22, 23, 24, 25, 26, 27, 28, 29, 30, 31, 32, 33, 34, 35, 36, 37, 38, 39, 40, 41, 42, 43, 44, 45, 46, 47, 48, 49, 50, 51, 52, 53, 54, 55, 56, 57, 58, 59, 60, 61, 62, 63, 64, 65, 66, 67, 68, 69, 70, 71, 77, 78, 79, 80, 81, 82, 83, 84, 85, 86, 87, 88, 89, 90, 91, 92, 93, 94, 95, 96, 97] (by decide +kernel) (by decide +kernel)
set_option maxRecDepth 20000 in
theorem gX6_errs_X6_errsTold : GoodIn wsX6_errs (wsV RX6 163 RX6 yX6_errsTold wsX6_errsTold) := goodIn_app (goodIn_of _ (by decide +kernel)) ggX6_errs_X6_errsTold
set_option maxRecDepth 20000 in
theorem ggX6_errs_X6_bad : GoodIn wsX6_errs wsX6_bad := goodIn_r _ [75, 76, 77, 78, 79, 80, 81, 82, 83, 84, 85, 86, 87, 88, 89, 90, 91, 92, 93, 94, 95, 96, 97] (by decide +kernel) (by decide +kernel)
set_option maxRecDepth 20000 in
theorem gX6_errs_X6_bad : GoodIn wsX6_errs (wsV RX6 59 RX6 yX6_bad wsX6_bad) := goodIn_app (goodIn_of _ (by decide +kernel)) ggX6_errs_X6_bad
theorem dX6_errs_0 : decode cX6_errs 0 = .ok (.iload_n 1, 1) := by decide +kernel
theorem dX6_errs_1 : decode cX6_errs 1 = .ok (.invokestatic 76, 3) := by decide +kernel
theorem dX6_errs_4 : decode cX6_errs 4 = .ok (.ifCond .eq 11, 3) := by decide +kernel
theorem dX6_errs_7 : decode cX6_errs 7 = .ok (.aload_n 0, 1) := by decide +kernel
theorem dX6_errs_8 : decode cX6_errs 8 = .ok (.iload_n 1, 1) := by decide +kernel
theorem dX6_errs_9 : decode cX6_errs 9 = .ok (.invokevirtual 163, 3) := by decide +kernel
theorem dX6_errs_12 : decode cX6_errs 12 = .ok (.goto 7, 3) := by decide +kernel
theorem dX6_errs_15 : decode cX6_errs 15 = .ok (.aload_n 0, 1) := by decide +kernel
theorem dX6_errs_16 : decode cX6_errs 16 = .ok (.invokevirtual 59, 3) := by decide +kernel
theorem dX6_errs_19 : decode cX6_errs 19 = .ok (.ireturn, 1) := by decide +kernel
set_option maxRecDepth 20000 in
theorem ggX6_best_X6_isMember : GoodIn wsX6_best wsX6_isMember := goodIn_r _ [6, 7, 8, 5, 9] (by decide +kernel) (by decide +kernel)
set_option maxRecDepth 20000 in
theorem gX6_best_X6_isMember : GoodIn wsX6_best (va_wsS RX6 76 yX6_isMember wsX6_isMember) := goodIn_app (goodIn_of _ (by decide +kernel)) ggX6_best_X6_isMember
set_option maxRecDepth 20000 in
theorem ggX6_best_X6_in : GoodIn wsX6_best wsX6_in := goodIn_r _ [9] (by decide +kernel) (by decide +kernel)
set_option maxRecDepth 20000 in
theorem gX6_best_X6_in : GoodIn wsX6_best (va_wsS RX6 44 yX6_in wsX6_in) := goodIn_app (goodIn_of _ (by decide +kernel)) ggX6_best_X6_in
set_option maxRecDepth 20000 in
theorem ggX6_best_X6_bad : GoodIn wsX6_best wsX6_bad := goodIn_r _ [13, 14, 73, 74, 75, 76, 77, 78, 79, 80, 81, 82, 83, 84, 85, 86, 87, 88, 89, 90, 91, 92, 93] (by decide +kernel) (by decide +kernel)
set_option maxRecDepth 20000 in
theorem gX6_best_X6_bad : GoodIn wsX6_best (wsV RX6 59 RX6 yX6_bad wsX6_bad) := goodIn_app (goodIn_of _ (by decide +kernel)) ggX6_best_X6_bad
set_option maxRecDepth 20000 in
theorem ggX6_best_X6_errsOf : GoodIn wsX6_best wsX6_errsOf := goodIn_r _ [18, 2, 19, 20, 21, 22, 23, 24, 5, 25, 26, 27, 28, 29, 30, 31, 32, 33, 34, 35, 1, 36, 37, 38, 39, 40, 41, 42, 43, 44, 45, 46, 47, 48, 49, 50, 51, 52, 53, 54, 55, 56, 57, 58, 59, 60, 73, 74, 75, 76, 77, 78, 79, 80, 81, 82, 83, 84, 85, 86, 87, 88, 89, 90, 91, 92, 93] (by decide +kernel) (by decide +kernel)
set_option maxRecDepth 20000 in
theorem gX6_best_X6_errsOf : GoodIn wsX6_best (wsV RX6 160 RX6 yX6_errsOf wsX6_errsOf) := goodIn_app (goodIn_of _ (by decide +kernel)) ggX6_best_X6_errsOf
set_option maxRecDepth 20000 in
theorem ggX6_best_Jxf58ca_floatToIntBits_5c35a : GoodIn wsX6_best wsJxf58ca_floatToIntBits_5c35a := goodIn_r _ [64, 65, 66, 67, 68, 69, 70, 71, 63, 72] (by decide +kernel) (by decide +kernel)
set_option maxRecDepth 20000 in
theorem gX6_best_Jxf58ca_floatToIntBits_5c35a : GoodIn wsX6_best (va_wsS RX6 118 yJxf58ca_floatToIntBits_5c35a wsJxf58ca_floatToIntBits_5c35a) := goodIn_app (goodIn_of _ (by decide +kernel)) ggX6_best_Jxf58ca_floatToIntBits_5c35a
theorem dX6_best_0 : decode cX6_best 0 = .ok (.iload_n 1, 1) := by decide +kernel
theorem dX6_best_1 : decode cX6_best 1 = .ok (.invokestatic 76, 3) := by decide +kernel
theorem dX6_best_4 : decode cX6_best 4 = .ok (.ifCond .eq 12, 3) := by decide +kernel
theorem dX6_best_7 : decode cX6_best 7 = .ok (.iload_n 2, 1) := by decide +kernel
theorem dX6_best_8 : decode cX6_best 8 = .ok (.iconst 0, 1) := by decide +kernel
theorem dX6_best_9 : decode cX6_best 9 = .ok (.iconst 1, 1) := by decide +kernel
theorem dX6_best_10 : decode cX6_best 10 = .ok (.invokestatic 44, 3) := by decide +kernel
theorem dX6_best_13 : decode cX6_best 13 = .ok (.ifCond .ne 8, 3) := by decide +kernel
theorem dX6_best_16 : decode cX6_best 16 = .ok (.aload_n 0, 1) := by decide +kernel
theorem dX6_best_17 : decode cX6_best 17 = .ok (.invokevirtual 59, 3) := by decide +kernel
theorem dX6_best_20 : decode cX6_best 20 = .ok (.ireturn, 1) := by decide +kernel
theorem dX6_best_21 : decode cX6_best 21 = .ok (.aload_n 0, 1) := by decide +kernel
theorem dX6_best_22 : decode cX6_best 22 = .ok (.getfield 13, 3) := by decide +kernel
theorem dX6_best_25 : decode cX6_best 25 = .ok (.iconst 5, 1) := by decide +kernel
theorem dX6_best_26 : decode cX6_best 26 = .ok (.iaload, 1) := by decide +kernel
theorem dX6_best_27 : decode cX6_best 27 = .ok (.istore_n 3, 1) := by decide +kernel
theorem dX6_best_28 : decode cX6_best 28 = .ok (.iconst (-1), 1) := by decide +kernel
theorem dX6_best_29 : decode cX6_best 29 = .ok (.istore 4, 2) := by decide +kernel
theorem dX6_best_31 : decode cX6_best 31 = .ok (.fconst 0, 1) := by decide +kernel
theorem dX6_best_32 : decode cX6_best 32 = .ok (.fstore 5, 2) := by decide +kernel
theorem dX6_best_34 : decode cX6_best 34 = .ok (.iconst 1, 1) := by decide +kernel
theorem dX6_best_35 : decode cX6_best 35 = .ok (.istore 6, 2) := by decide +kernel
theorem dX6_best_37 : decode cX6_best 37 = .ok (.iload 6, 2) := by decide +kernel
theorem dX6_best_39 : decode cX6_best 39 = .ok (.bipush 12, 2) := by decide +kernel
theorem dX6_best_41 : decode cX6_best 41 = .ok (.if_icmp .gt 53, 3) := by decide +kernel
theorem dX6_best_44 : decode cX6_best 44 = .ok (.aload_n 0, 1) := by decide +kernel
theorem dX6_best_45 : decode cX6_best 45 = .ok (.getfield 13, 3) := by decide +kernel
theorem dX6_best_48 : decode cX6_best 48 = .ok (.iconst 5, 1) := by decide +kernel
theorem dX6_best_49 : decode cX6_best 49 = .ok (.iload 6, 2) := by decide +kernel
theorem dX6_best_51 : decode cX6_best 51 = .ok (.iastore, 1) := by decide +kernel
theorem dX6_best_52 : decode cX6_best 52 = .ok (.aload_n 0, 1) := by decide +kernel
theorem dX6_best_53 : decode cX6_best 53 = .ok (.iload_n 1, 1) := by decide +kernel
theorem dX6_best_54 : decode cX6_best 54 = .ok (.invokevirtual 160, 3) := by decide +kernel
theorem dX6_best_57 : decode cX6_best 57 = .ok (.fstore 7, 2) := by decide +kernel
theorem dX6_best_59 : decode cX6_best 59 = .ok (.aload_n 0, 1) := by decide +kernel
theorem dX6_best_60 : decode cX6_best 60 = .ok (.getfield 157, 3) := by decide +kernel
theorem dX6_best_63 : decode cX6_best 63 = .ok (.ifCond .le 25, 3) := by decide +kernel
theorem dX6_best_66 : decode cX6_best 66 = .ok (.iload 4, 2) := by decide +kernel
theorem dX6_best_68 : decode cX6_best 68 = .ok (.iconst (-1), 1) := by decide +kernel
theorem dX6_best_69 : decode cX6_best 69 = .ok (.if_icmp .eq 11, 3) := by decide +kernel
theorem dX6_best_72 : decode cX6_best 72 = .ok (.fload 7, 2) := by decide +kernel
theorem dX6_best_74 : decode cX6_best 74 = .ok (.fload 5, 2) := by decide +kernel
theorem dX6_best_76 : decode cX6_best 76 = .ok (.fcmp .g, 1) := by decide +kernel
theorem dX6_best_77 : decode cX6_best 77 = .ok (.ifCond .ge 11, 3) := by decide +kernel
theorem dX6_best_80 : decode cX6_best 80 = .ok (.iload 6, 2) := by decide +kernel
theorem dX6_best_82 : decode cX6_best 82 = .ok (.istore 4, 2) := by decide +kernel
theorem dX6_best_84 : decode cX6_best 84 = .ok (.fload 7, 2) := by decide +kernel
theorem dX6_best_86 : decode cX6_best 86 = .ok (.fstore 5, 2) := by decide +kernel
theorem dX6_best_88 : decode cX6_best 88 = .ok (.iinc 6 1, 3) := by decide +kernel
theorem dX6_best_91 : decode cX6_best 91 = .ok (.goto (-54), 3) := by decide +kernel
theorem dX6_best_94 : decode cX6_best 94 = .ok (.aload_n 0, 1) := by decide +kernel
theorem dX6_best_95 : decode cX6_best 95 = .ok (.getfield 13, 3) := by decide +kernel
theorem dX6_best_98 : decode cX6_best 98 = .ok (.iconst 5, 1) := by decide +kernel
theorem dX6_best_99 : decode cX6_best 99 = .ok (.iload_n 3, 1) := by decide +kernel
theorem dX6_best_100 : decode cX6_best 100 = .ok (.iastore, 1) := by decide +kernel
theorem dX6_best_101 : decode cX6_best 101 = .ok (.iload_n 2, 1) := by decide +kernel
theorem dX6_best_102 : decode cX6_best 102 = .ok (.ifCond .eq 9, 3) := by decide +kernel
theorem dX6_best_105 : decode cX6_best 105 = .ok (.iload 4, 2) := by decide +kernel
theorem dX6_best_107 : decode cX6_best 107 = .ok (.iconst (-1), 1) := by decide +kernel
theorem dX6_best_108 : decode cX6_best 108 = .ok (.if_icmp .ne 8, 3) := by decide +kernel
theorem dX6_best_111 : decode cX6_best 111 = .ok (.iload 4, 2) := by decide +kernel
theorem dX6_best_113 : decode cX6_best 113 = .ok (.goto 8, 3) := by decide +kernel
theorem dX6_best_116 : decode cX6_best 116 = .ok (.fload 5, 2) := by decide +kernel
theorem dX6_best_118 : decode cX6_best 118 = .ok (.invokestatic 118, 3) := by decide +kernel
theorem dX6_best_121 : decode cX6_best 121 = .ok (.ireturn, 1) := by decide +kernel
set_option maxRecDepth 20000 in
theorem ggX6_spare_X6_isMember : GoodIn wsX6_spare wsX6_isMember := goodIn_r _ [6, 7, 8, 5, 9] (by decide +kernel) (by decide +kernel)
set_option maxRecDepth 20000 in
theorem gX6_spare_X6_isMember : GoodIn wsX6_spare (va_wsS RX6 76 yX6_isMember wsX6_isMember) := goodIn_app (goodIn_of _ (by decide +kernel)) ggX6_spare_X6_isMember
set_option maxRecDepth 20000 in
theorem ggX6_spare_X6_bad : GoodIn wsX6_spare wsX6_bad := goodIn_r _ [13, 14, 61, 62, 63, 64, 65, 66, 67, 68, 69, 70, 71, 72, 73, 74, 75, 76, 77, 78, 79, 80, 81] (by decide +kernel) (by decide +kernel)
set_option maxRecDepth 20000 in
theorem gX6_spare_X6_bad : GoodIn wsX6_spare (wsV RX6 59 RX6 yX6_bad wsX6_bad) := goodIn_app (goodIn_of _ (by decide +kernel)) ggX6_spare_X6_bad
set_option maxRecDepth 20000 in
theorem ggX6_spare_X6_errsOf : GoodIn wsX6_spare wsX6_errsOf := goodIn_r _ [18, 2, 19, 20, 21, 22, 23, 24, 5, 25, 26, 27, 28, 29, 30, 31, 32, 33, 34, 35, 1, 36, 37, 38, 39, 40, 41, 42, 43, 44, 45, 46, 47, 48, 49, 50, 51, 52, 53, 54, 55, 56, 57, 58, 59, 60, 61, 62, 63, 64, 65, 66, 67, 68, 69, 70, 71, 72, 73, 74, 75, 76, 77, 78, 79, 80, 81] (by decide +kernel) (by decide +kernel)
set_option maxRecDepth 20000 in
theorem gX6_spare_X6_errsOf : GoodIn wsX6_spare (wsV RX6 160 RX6 yX6_errsOf wsX6_errsOf) := goodIn_app (goodIn_of _ (by decide +kernel)) ggX6_spare_X6_errsOf
theorem dX6_spare_0 : decode cX6_spare 0 = .ok (.iload_n 1, 1) := by decide +kernel
theorem dX6_spare_1 : decode cX6_spare 1 = .ok (.invokestatic 76, 3) := by decide +kernel
theorem dX6_spare_4 : decode cX6_spare 4 = .ok (.ifCond .ne 8, 3) := by decide +kernel
theorem dX6_spare_7 : decode cX6_spare 7 = .ok (.aload_n 0, 1) := by decide +kernel
theorem dX6_spare_8 : decode cX6_spare 8 = .ok (.invokevirtual 59, 3) := by decide +kernel
theorem dX6_spare_11 : decode cX6_spare 11 = .ok (.ireturn, 1) := by decide +kernel
theorem dX6_spare_12 : decode cX6_spare 12 = .ok (.iconst (-1), 1) := by decide +kernel
theorem dX6_spare_13 : decode cX6_spare 13 = .ok (.istore_n 2, 1) := by decide +kernel
theorem dX6_spare_14 : decode cX6_spare 14 = .ok (.fconst 0, 1) := by decide +kernel
theorem dX6_spare_15 : decode cX6_spare 15 = .ok (.fstore_n 3, 1) := by decide +kernel
theorem dX6_spare_16 : decode cX6_spare 16 = .ok (.iconst 0, 1) := by decide +kernel
theorem dX6_spare_17 : decode cX6_spare 17 = .ok (.istore 4, 2) := by decide +kernel
theorem dX6_spare_19 : decode cX6_spare 19 = .ok (.iload 4, 2) := by decide +kernel
theorem dX6_spare_21 : decode cX6_spare 21 = .ok (.iconst 4, 1) := by decide +kernel
theorem dX6_spare_22 : decode cX6_spare 22 = .ok (.if_icmp .ge 67, 3) := by decide +kernel
theorem dX6_spare_25 : decode cX6_spare 25 = .ok (.aload_n 0, 1) := by decide +kernel
theorem dX6_spare_26 : decode cX6_spare 26 = .ok (.getfield 13, 3) := by decide +kernel
theorem dX6_spare_29 : decode cX6_spare 29 = .ok (.iload 4, 2) := by decide +kernel
theorem dX6_spare_31 : decode cX6_spare 31 = .ok (.iaload, 1) := by decide +kernel
theorem dX6_spare_32 : decode cX6_spare 32 = .ok (.istore 5, 2) := by decide +kernel
theorem dX6_spare_34 : decode cX6_spare 34 = .ok (.aload_n 0, 1) := by decide +kernel
theorem dX6_spare_35 : decode cX6_spare 35 = .ok (.getfield 13, 3) := by decide +kernel
theorem dX6_spare_38 : decode cX6_spare 38 = .ok (.iload 4, 2) := by decide +kernel
theorem dX6_spare_40 : decode cX6_spare 40 = .ok (.iconst 0, 1) := by decide +kernel
theorem dX6_spare_41 : decode cX6_spare 41 = .ok (.iastore, 1) := by decide +kernel
theorem dX6_spare_42 : decode cX6_spare 42 = .ok (.aload_n 0, 1) := by decide +kernel
theorem dX6_spare_43 : decode cX6_spare 43 = .ok (.iload_n 1, 1) := by decide +kernel
theorem dX6_spare_44 : decode cX6_spare 44 = .ok (.invokevirtual 160, 3) := by decide +kernel
theorem dX6_spare_47 : decode cX6_spare 47 = .ok (.fstore 6, 2) := by decide +kernel
theorem dX6_spare_49 : decode cX6_spare 49 = .ok (.aload_n 0, 1) := by decide +kernel
theorem dX6_spare_50 : decode cX6_spare 50 = .ok (.getfield 13, 3) := by decide +kernel
theorem dX6_spare_53 : decode cX6_spare 53 = .ok (.iload 4, 2) := by decide +kernel
theorem dX6_spare_55 : decode cX6_spare 55 = .ok (.iload 5, 2) := by decide +kernel
theorem dX6_spare_57 : decode cX6_spare 57 = .ok (.iastore, 1) := by decide +kernel
theorem dX6_spare_58 : decode cX6_spare 58 = .ok (.aload_n 0, 1) := by decide +kernel
theorem dX6_spare_59 : decode cX6_spare 59 = .ok (.getfield 157, 3) := by decide +kernel
theorem dX6_spare_62 : decode cX6_spare 62 = .ok (.ifCond .le 21, 3) := by decide +kernel
theorem dX6_spare_65 : decode cX6_spare 65 = .ok (.iload_n 2, 1) := by decide +kernel
theorem dX6_spare_66 : decode cX6_spare 66 = .ok (.iconst (-1), 1) := by decide +kernel
theorem dX6_spare_67 : decode cX6_spare 67 = .ok (.if_icmp .eq 10, 3) := by decide +kernel
theorem dX6_spare_70 : decode cX6_spare 70 = .ok (.fload 6, 2) := by decide +kernel
theorem dX6_spare_72 : decode cX6_spare 72 = .ok (.fload_n 3, 1) := by decide +kernel
theorem dX6_spare_73 : decode cX6_spare 73 = .ok (.fcmp .g, 1) := by decide +kernel
theorem dX6_spare_74 : decode cX6_spare 74 = .ok (.ifCond .ge 9, 3) := by decide +kernel
theorem dX6_spare_77 : decode cX6_spare 77 = .ok (.iload 4, 2) := by decide +kernel
theorem dX6_spare_79 : decode cX6_spare 79 = .ok (.istore_n 2, 1) := by decide +kernel
theorem dX6_spare_80 : decode cX6_spare 80 = .ok (.fload 6, 2) := by decide +kernel
theorem dX6_spare_82 : decode cX6_spare 82 = .ok (.fstore_n 3, 1) := by decide +kernel
theorem dX6_spare_83 : decode cX6_spare 83 = .ok (.iinc 4 1, 3) := by decide +kernel
theorem dX6_spare_86 : decode cX6_spare 86 = .ok (.goto (-67), 3) := by decide +kernel
theorem dX6_spare_89 : decode cX6_spare 89 = .ok (.iload_n 2, 1) := by decide +kernel
theorem dX6_spare_90 : decode cX6_spare 90 = .ok (.ireturn, 1) := by decide +kernel
set_option maxRecDepth 20000 in
theorem ggX6_type_X6_in : GoodIn wsX6_type wsX6_in := goodIn_r _ [6] (by decide +kernel) (by decide +kernel)
set_option maxRecDepth 20000 in
theorem gX6_type_X6_in : GoodIn wsX6_type (va_wsS RX6 44 yX6_in wsX6_in) := goodIn_app (goodIn_of _ (by decide +kernel)) ggX6_type_X6_in
set_option maxRecDepth 20000 in
theorem ggX6_type_X6_bad : GoodIn wsX6_type wsX6_bad := goodIn_r _ [10, 11, 16, 17, 18, 19, 20, 21, 22, 23, 24, 25, 26, 27, 28, 29, 30, 31, 32, 33, 34, 35, 36] (by decide +kernel) (by decide +kernel)
set_option maxRecDepth 20000 in
theorem gX6_type_X6_bad : GoodIn wsX6_type (wsV RX6 59 RX6 yX6_bad wsX6_bad) := goodIn_app (goodIn_of _ (by decide +kernel)) ggX6_type_X6_bad
set_option maxRecDepth 20000 in
theorem ggX6_type_X6_full : GoodIn wsX6_type wsX6_full := goodIn_r _ [15, 11, 16, 17, 18, 19, 20, 21, 22, 23, 24, 25, 26, 27, 28, 29, 30, 31, 32, 33, 34, 35, 36] (by decide +kernel) (by decide +kernel)
set_option maxRecDepth 20000 in
theorem gX6_type_X6_full : GoodIn wsX6_type (wsV RX6 63 RX6 yX6_full wsX6_full) := goodIn_app (goodIn_of _ (by decide +kernel)) ggX6_type_X6_full
theorem dX6_type_0 : decode cX6_type 0 = .ok (.iload_n 1, 1) := by decide +kernel
theorem dX6_type_1 : decode cX6_type 1 = .ok (.iconst 0, 1) := by decide +kernel
theorem dX6_type_2 : decode cX6_type 2 = .ok (.bipush 127, 2) := by decide +kernel
theorem dX6_type_4 : decode cX6_type 4 = .ok (.invokestatic 44, 3) := by decide +kernel
theorem dX6_type_7 : decode cX6_type 7 = .ok (.ifCond .ne 8, 3) := by decide +kernel
theorem dX6_type_10 : decode cX6_type 10 = .ok (.aload_n 0, 1) := by decide +kernel
theorem dX6_type_11 : decode cX6_type 11 = .ok (.invokevirtual 59, 3) := by decide +kernel
