theorem dX3_erase_7 : decode cX3_erase 7 = .ok (.ifnonnull 5, 3) := by decide +kernel
theorem dX3_erase_10 : decode cX3_erase 10 = .ok (.iconst (-1), 1) := by decide +kernel
theorem dX3_erase_11 : decode cX3_erase 11 = .ok (.ireturn, 1) := by decide +kernel
theorem dX3_erase_12 : decode cX3_erase 12 = .ok (.aload_n 2, 1) := by decide +kernel
theorem dX3_erase_13 : decode cX3_erase 13 = .ok (.getfield 89, 3) := by decide +kernel
theorem dX3_erase_16 : decode cX3_erase 16 = .ok (.ifCond .eq 11, 3) := by decide +kernel
theorem dX3_erase_19 : decode cX3_erase 19 = .ok (.aload_n 0, 1) := by decide +kernel
theorem dX3_erase_20 : decode cX3_erase 20 = .ok (.invokevirtual 96, 3) := by decide +kernel
theorem dX3_erase_23 : decode cX3_erase 23 = .ok (.iconst 1, 1) := by decide +kernel
theorem dX3_erase_24 : decode cX3_erase 24 = .ok (.if_icmp .ne 5, 3) := by decide +kernel
theorem dX3_erase_27 : decode cX3_erase 27 = .ok (.iconst 0, 1) := by decide +kernel
theorem dX3_erase_28 : decode cX3_erase 28 = .ok (.ireturn, 1) := by decide +kernel
theorem dX3_erase_29 : decode cX3_erase 29 = .ok (.aload_n 2, 1) := by decide +kernel
theorem dX3_erase_30 : decode cX3_erase 30 = .ok (.iconst 0, 1) := by decide +kernel
theorem dX3_erase_31 : decode cX3_erase 31 = .ok (.putfield 89, 3) := by decide +kernel
theorem dX3_erase_34 : decode cX3_erase 34 = .ok (.aload_n 2, 1) := by decide +kernel
theorem dX3_erase_35 : decode cX3_erase 35 = .ok (.iconst 0, 1) := by decide +kernel
theorem dX3_erase_36 : decode cX3_erase 36 = .ok (.putfield 99, 3) := by decide +kernel
theorem dX3_erase_39 : decode cX3_erase 39 = .ok (.aload_n 2, 1) := by decide +kernel
theorem dX3_erase_40 : decode cX3_erase 40 = .ok (.iconst 0, 1) := by decide +kernel
theorem dX3_erase_41 : decode cX3_erase 41 = .ok (.putfield 102, 3) := by decide +kernel
theorem dX3_erase_44 : decode cX3_erase 44 = .ok (.iconst 1, 1) := by decide +kernel
theorem dX3_erase_45 : decode cX3_erase 45 = .ok (.ireturn, 1) := by decide +kernel
set_option maxRecDepth 20000 in
theorem ggX3_field_X3_find : GoodIn wsX3_field wsX3_find := goodIn_r _ [13, 14, 15, 47, 48, 49, 50, 51, 52, 53, 54, 55] (by decide +kernel) (by decide +kernel)
set_option maxRecDepth 20000 in
theorem gX3_field_X3_find : GoodIn wsX3_field (wsV RX3 59 RX3 yX3_find wsX3_find) := goodIn_app (goodIn_of _ (by decide +kernel)) ggX3_field_X3_find
set_option maxRecDepth 20000 in
theorem ggX3_field_X3_isWithin : GoodIn wsX3_field wsX3_isWithin := goodIn_r _ [18] (by decide +kernel) (by decide +kernel)
set_option maxRecDepth 20000 in
theorem gX3_field_X3_isWithin : GoodIn wsX3_field (va_wsS RX3 107 yX3_isWithin wsX3_isWithin) := goodIn_app (goodIn_of _ (by decide +kernel)) ggX3_field_X3_isWithin
set_option maxRecDepth 20000 in
theorem ggX3_field_X0_nearestTo : GoodIn wsX3_field wsX0_nearestTo := goodIn_r _ [23, 24, 25, 26] (by decide +kernel) (by decide +kernel)
set_option maxRecDepth 20000 in
theorem gX3_field_X0_nearestTo : GoodIn wsX3_field (wsV RX3 116 RX0 yX0_nearestTo wsX0_nearestTo) := goodIn_app (goodIn_of _ (by decide +kernel)) ggX3_field_X0_nearestTo
set_option maxRecDepth 20000 in
theorem ggX3_field_X0_openOne : GoodIn wsX3_field wsX0_openOne := goodIn_r _ [30, 31, 32, 33, 22, 34, 35, 36, 37, 38, 39, 63, 64, 65] (by decide +kernel) (by decide +kernel)
set_option maxRecDepth 20000 in
theorem gX3_field_X0_openOne : GoodIn wsX3_field (wsV RX3 122 RX0 yX0_openOne wsX0_openOne) := goodIn_app (goodIn_of _ (by decide +kernel)) ggX3_field_X0_openOne
set_option maxRecDepth 20000 in
theorem ggX3_field_X2_isAtHand : GoodIn wsX3_field wsX2_isAtHand := goodIn_r _ [44, 45, 46, 56, 57, 58, 59, 60, 61, 62] (by decide +kernel) (by decide +kernel)
set_option maxRecDepth 20000 in
theorem gX3_field_X2_isAtHand : GoodIn wsX3_field (wsV RX3 126 RX2 yX2_isAtHand wsX2_isAtHand) := goodIn_app (goodIn_of _ (by decide +kernel)) ggX3_field_X2_isAtHand
theorem dX3_field_0 : decode cX3_field 0 = .ok (.aload_n 0, 1) := by decide +kernel
theorem dX3_field_1 : decode cX3_field 1 = .ok (.iload_n 1, 1) := by decide +kernel
theorem dX3_field_2 : decode cX3_field 2 = .ok (.invokevirtual 59, 3) := by decide +kernel
theorem dX3_field_5 : decode cX3_field 5 = .ok (.astore 8, 2) := by decide +kernel
theorem dX3_field_7 : decode cX3_field 7 = .ok (.aload 8, 2) := by decide +kernel
theorem dX3_field_9 : decode cX3_field 9 = .ok (.ifnonnull 5, 3) := by decide +kernel
theorem dX3_field_12 : decode cX3_field 12 = .ok (.iconst (-1), 1) := by decide +kernel
theorem dX3_field_13 : decode cX3_field 13 = .ok (.ireturn, 1) := by decide +kernel
theorem dX3_field_14 : decode cX3_field 14 = .ok (.lload_n 2, 1) := by decide +kernel
theorem dX3_field_15 : decode cX3_field 15 = .ok (.ldc2_w 105, 3) := by decide +kernel
theorem dX3_field_18 : decode cX3_field 18 = .ok (.invokestatic 107, 3) := by decide +kernel
theorem dX3_field_21 : decode cX3_field 21 = .ok (.ifCond .eq 21, 3) := by decide +kernel
theorem dX3_field_24 : decode cX3_field 24 = .ok (.lload 4, 2) := by decide +kernel
theorem dX3_field_26 : decode cX3_field 26 = .ok (.ldc2_w 105, 3) := by decide +kernel
theorem dX3_field_29 : decode cX3_field 29 = .ok (.invokestatic 107, 3) := by decide +kernel
theorem dX3_field_32 : decode cX3_field 32 = .ok (.ifCond .eq 10, 3) := by decide +kernel
theorem dX3_field_35 : decode cX3_field 35 = .ok (.lload 6, 2) := by decide +kernel
theorem dX3_field_37 : decode cX3_field 37 = .ok (.lconst 1, 1) := by decide +kernel
theorem dX3_field_38 : decode cX3_field 38 = .ok (.lcmp, 1) := by decide +kernel
theorem dX3_field_39 : decode cX3_field 39 = .ok (.ifCond .ge 6, 3) := by decide +kernel
theorem dX3_field_42 : decode cX3_field 42 = .ok (.bipush (-2), 2) := by decide +kernel
theorem dX3_field_44 : decode cX3_field 44 = .ok (.ireturn, 1) := by decide +kernel
theorem dX3_field_45 : decode cX3_field 45 = .ok (.lload 6, 2) := by decide +kernel
theorem dX3_field_47 : decode cX3_field 47 = .ok (.ldc2_w 111, 3) := by decide +kernel
theorem dX3_field_50 : decode cX3_field 50 = .ok (.lcmp, 1) := by decide +kernel
theorem dX3_field_51 : decode cX3_field 51 = .ok (.ifCond .gt 7, 3) := by decide +kernel
theorem dX3_field_54 : decode cX3_field 54 = .ok (.iconst 1, 1) := by decide +kernel
theorem dX3_field_55 : decode cX3_field 55 = .ok (.goto 4, 3) := by decide +kernel
theorem dX3_field_58 : decode cX3_field 58 = .ok (.iconst 0, 1) := by decide +kernel
theorem dX3_field_59 : decode cX3_field 59 = .ok (.istore 9, 2) := by decide +kernel
theorem dX3_field_61 : decode cX3_field 61 = .ok (.iload 9, 2) := by decide +kernel
theorem dX3_field_63 : decode cX3_field 63 = .ok (.ifCond .ne 13, 3) := by decide +kernel
theorem dX3_field_66 : decode cX3_field 66 = .ok (.aload_n 0, 1) := by decide +kernel
theorem dX3_field_67 : decode cX3_field 67 = .ok (.dup, 1) := by decide +kernel
theorem dX3_field_68 : decode cX3_field 68 = .ok (.getfield 113, 3) := by decide +kernel
theorem dX3_field_71 : decode cX3_field 71 = .ok (.iconst 1, 1) := by decide +kernel
theorem dX3_field_72 : decode cX3_field 72 = .ok (.iadd, 1) := by decide +kernel
theorem dX3_field_73 : decode cX3_field 73 = .ok (.putfield 113, 3) := by decide +kernel
theorem dX3_field_76 : decode cX3_field 76 = .ok (.iload 9, 2) := by decide +kernel
theorem dX3_field_78 : decode cX3_field 78 = .ok (.ifCond .eq 15, 3) := by decide +kernel
theorem dX3_field_81 : decode cX3_field 81 = .ok (.aload 8, 2) := by decide +kernel
theorem dX3_field_83 : decode cX3_field 83 = .ok (.getfield 89, 3) := by decide +kernel
theorem dX3_field_86 : decode cX3_field 86 = .ok (.ifCond .eq 7, 3) := by decide +kernel
theorem dX3_field_89 : decode cX3_field 89 = .ok (.iconst 1, 1) := by decide +kernel
theorem dX3_field_90 : decode cX3_field 90 = .ok (.goto 4, 3) := by decide +kernel
theorem dX3_field_93 : decode cX3_field 93 = .ok (.iconst 0, 1) := by decide +kernel
theorem dX3_field_94 : decode cX3_field 94 = .ok (.istore 10, 2) := by decide +kernel
theorem dX3_field_96 : decode cX3_field 96 = .ok (.aload_n 0, 1) := by decide +kernel
theorem dX3_field_97 : decode cX3_field 97 = .ok (.getfield 32, 3) := by decide +kernel
theorem dX3_field_100 : decode cX3_field 100 = .ok (.lload_n 2, 1) := by decide +kernel
theorem dX3_field_101 : decode cX3_field 101 = .ok (.lload 4, 2) := by decide +kernel
theorem dX3_field_103 : decode cX3_field 103 = .ok (.invokevirtual 116, 3) := by decide +kernel
theorem dX3_field_106 : decode cX3_field 106 = .ok (.istore 11, 2) := by decide +kernel
theorem dX3_field_108 : decode cX3_field 108 = .ok (.aload 8, 2) := by decide +kernel
theorem dX3_field_110 : decode cX3_field 110 = .ok (.iload 10, 2) := by decide +kernel
theorem dX3_field_112 : decode cX3_field 112 = .ok (.ifCond .eq 13, 3) := by decide +kernel
theorem dX3_field_115 : decode cX3_field 115 = .ok (.iload 11, 2) := by decide +kernel
theorem dX3_field_117 : decode cX3_field 117 = .ok (.iconst (-1), 1) := by decide +kernel
theorem dX3_field_118 : decode cX3_field 118 = .ok (.if_icmp .eq 7, 3) := by decide +kernel
theorem dX3_field_121 : decode cX3_field 121 = .ok (.iconst 1, 1) := by decide +kernel
theorem dX3_field_122 : decode cX3_field 122 = .ok (.goto 4, 3) := by decide +kernel
theorem dX3_field_125 : decode cX3_field 125 = .ok (.iconst 0, 1) := by decide +kernel
theorem dX3_field_126 : decode cX3_field 126 = .ok (.putfield 99, 3) := by decide +kernel
theorem dX3_field_129 : decode cX3_field 129 = .ok (.aload 8, 2) := by decide +kernel
theorem dX3_field_131 : decode cX3_field 131 = .ok (.iload 10, 2) := by decide +kernel
theorem dX3_field_133 : decode cX3_field 133 = .ok (.ifCond .eq 28, 3) := by decide +kernel
theorem dX3_field_136 : decode cX3_field 136 = .ok (.lload_n 2, 1) := by decide +kernel
theorem dX3_field_137 : decode cX3_field 137 = .ok (.ldc2_w 111, 3) := by decide +kernel
theorem dX3_field_140 : decode cX3_field 140 = .ok (.invokestatic 107, 3) := by decide +kernel
theorem dX3_field_143 : decode cX3_field 143 = .ok (.ifCond .eq 18, 3) := by decide +kernel
theorem dX3_field_146 : decode cX3_field 146 = .ok (.lload 4, 2) := by decide +kernel
theorem dX3_field_148 : decode cX3_field 148 = .ok (.ldc2_w 120, 3) := by decide +kernel
theorem dX3_field_151 : decode cX3_field 151 = .ok (.invokestatic 107, 3) := by decide +kernel
theorem dX3_field_154 : decode cX3_field 154 = .ok (.ifCond .eq 7, 3) := by decide +kernel
theorem dX3_field_157 : decode cX3_field 157 = .ok (.iconst 1, 1) := by decide +kernel
theorem dX3_field_158 : decode cX3_field 158 = .ok (.goto 4, 3) := by decide +kernel
theorem dX3_field_161 : decode cX3_field 161 = .ok (.iconst 0, 1) := by decide +kernel
theorem dX3_field_162 : decode cX3_field 162 = .ok (.putfield 102, 3) := by decide +kernel
theorem dX3_field_165 : decode cX3_field 165 = .ok (.aload 8, 2) := by decide +kernel
theorem dX3_field_167 : decode cX3_field 167 = .ok (.getfield 99, 3) := by decide +kernel
theorem dX3_field_170 : decode cX3_field 170 = .ok (.ifCond .eq 20, 3) := by decide +kernel
theorem dX3_field_173 : decode cX3_field 173 = .ok (.aload 8, 2) := by decide +kernel
theorem dX3_field_175 : decode cX3_field 175 = .ok (.getfield 102, 3) := by decide +kernel
theorem dX3_field_178 : decode cX3_field 178 = .ok (.ifCond .ne 12, 3) := by decide +kernel
theorem dX3_field_181 : decode cX3_field 181 = .ok (.aload_n 0, 1) := by decide +kernel
theorem dX3_field_182 : decode cX3_field 182 = .ok (.getfield 32, 3) := by decide +kernel
theorem dX3_field_185 : decode cX3_field 185 = .ok (.iload 11, 2) := by decide +kernel
theorem dX3_field_187 : decode cX3_field 187 = .ok (.invokevirtual 122, 3) := by decide +kernel
theorem dX3_field_190 : decode cX3_field 190 = .ok (.aload 8, 2) := by decide +kernel
theorem dX3_field_192 : decode cX3_field 192 = .ok (.invokevirtual 126, 3) := by decide +kernel
theorem dX3_field_195 : decode cX3_field 195 = .ok (.ifCond .eq 7, 3) := by decide +kernel
theorem dX3_field_198 : decode cX3_field 198 = .ok (.iconst 1, 1) := by decide +kernel
theorem dX3_field_199 : decode cX3_field 199 = .ok (.goto 4, 3) := by decide +kernel
theorem dX3_field_202 : decode cX3_field 202 = .ok (.iconst 0, 1) := by decide +kernel
theorem dX3_field_203 : decode cX3_field 203 = .ok (.ireturn, 1) := by decide +kernel
set_option maxRecDepth 20000 in
theorem ggX3_start_X3_find : GoodIn wsX3_start wsX3_find := goodIn_r _ [11, 12, 13, 34, 35, 36, 37, 38, 39, 40, 41, 42] (by decide +kernel) (by decide +kernel)
set_option maxRecDepth 20000 in
theorem gX3_start_X3_find : GoodIn wsX3_start (wsV RX3 59 RX3 yX3_find wsX3_find) := goodIn_app (goodIn_of _ (by decide +kernel)) ggX3_start_X3_find
set_option maxRecDepth 20000 in
theorem ggX3_start_X2_encipher : GoodIn wsX3_start wsX2_encipher := goodIn_r _ [18, 19, 20, 21, 22, 17, 23, 24, 25, 26, 27, 28, 29, 30, 31, 32, 33, 43, 44, 45, 46, 47, 48, 49] (by decide +kernel) (by decide +kernel)
set_option maxRecDepth 20000 in
theorem gX3_start_X2_encipher : GoodIn wsX3_start (wsV RX3 136 RX2 yX2_encipher wsX2_encipher) := goodIn_app (goodIn_of _ (by decide +kernel)) ggX3_start_X2_encipher
theorem dX3_start_0 : decode cX3_start 0 = .ok (.aload_n 0, 1) := by decide +kernel
theorem dX3_start_1 : decode cX3_start 1 = .ok (.iload_n 1, 1) := by decide +kernel
theorem dX3_start_2 : decode cX3_start 2 = .ok (.invokevirtual 59, 3) := by decide +kernel
theorem dX3_start_5 : decode cX3_start 5 = .ok (.astore 4, 2) := by decide +kernel
theorem dX3_start_7 : decode cX3_start 7 = .ok (.aload 4, 2) := by decide +kernel
theorem dX3_start_9 : decode cX3_start 9 = .ok (.ifnonnull 5, 3) := by decide +kernel
theorem dX3_start_12 : decode cX3_start 12 = .ok (.iconst (-1), 1) := by decide +kernel
theorem dX3_start_13 : decode cX3_start 13 = .ok (.ireturn, 1) := by decide +kernel
theorem dX3_start_14 : decode cX3_start 14 = .ok (.aload_n 0, 1) := by decide +kernel
theorem dX3_start_15 : decode cX3_start 15 = .ok (.dup, 1) := by decide +kernel
theorem dX3_start_16 : decode cX3_start 16 = .ok (.getfield 129, 3) := by decide +kernel
theorem dX3_start_19 : decode cX3_start 19 = .ok (.iconst 1, 1) := by decide +kernel
theorem dX3_start_20 : decode cX3_start 20 = .ok (.iadd, 1) := by decide +kernel
theorem dX3_start_21 : decode cX3_start 21 = .ok (.putfield 129, 3) := by decide +kernel
theorem dX3_start_24 : decode cX3_start 24 = .ok (.ldc2_w 132, 3) := by decide +kernel
theorem dX3_start_27 : decode cX3_start 27 = .ok (.aload_n 0, 1) := by decide +kernel
theorem dX3_start_28 : decode cX3_start 28 = .ok (.getfield 129, 3) := by decide +kernel
theorem dX3_start_31 : decode cX3_start 31 = .ok (.i2l, 1) := by decide +kernel
theorem dX3_start_32 : decode cX3_start 32 = .ok (.lmul, 1) := by decide +kernel
theorem dX3_start_33 : decode cX3_start 33 = .ok (.ldc2_w 134, 3) := by decide +kernel
theorem dX3_start_36 : decode cX3_start 36 = .ok (.land, 1) := by decide +kernel
theorem dX3_start_37 : decode cX3_start 37 = .ok (.lstore 5, 2) := by decide +kernel
theorem dX3_start_39 : decode cX3_start 39 = .ok (.aload 4, 2) := by decide +kernel
theorem dX3_start_41 : decode cX3_start 41 = .ok (.getfield 89, 3) := by decide +kernel
theorem dX3_start_44 : decode cX3_start 44 = .ok (.ifCond .eq 23, 3) := by decide +kernel
theorem dX3_start_47 : decode cX3_start 47 = .ok (.aload 4, 2) := by decide +kernel
theorem dX3_start_49 : decode cX3_start 49 = .ok (.getfield 102, 3) := by decide +kernel
theorem dX3_start_52 : decode cX3_start 52 = .ok (.ifCond .eq 15, 3) := by decide +kernel
theorem dX3_start_55 : decode cX3_start 55 = .ok (.lload_n 2, 1) := by decide +kernel
theorem dX3_start_56 : decode cX3_start 56 = .ok (.aload 4, 2) := by decide +kernel
theorem dX3_start_58 : decode cX3_start 58 = .ok (.lload 5, 2) := by decide +kernel
theorem dX3_start_60 : decode cX3_start 60 = .ok (.invokevirtual 136, 3) := by decide +kernel
theorem dX3_start_63 : decode cX3_start 63 = .ok (.lcmp, 1) := by decide +kernel
theorem dX3_start_64 : decode cX3_start 64 = .ok (.ifCond .eq 5, 3) := by decide +kernel
theorem dX3_start_67 : decode cX3_start 67 = .ok (.iconst 0, 1) := by decide +kernel
theorem dX3_start_68 : decode cX3_start 68 = .ok (.ireturn, 1) := by decide +kernel
theorem dX3_start_69 : decode cX3_start 69 = .ok (.aload_n 0, 1) := by decide +kernel
theorem dX3_start_70 : decode cX3_start 70 = .ok (.iconst 0, 1) := by decide +kernel
theorem dX3_start_71 : decode cX3_start 71 = .ok (.putfield 76, 3) := by decide +kernel
theorem dX3_start_74 : decode cX3_start 74 = .ok (.iconst 1, 1) := by decide +kernel
theorem dX3_start_75 : decode cX3_start 75 = .ok (.ireturn, 1) := by decide +kernel
set_option maxRecDepth 20000 in
theorem ggX3_crash_X0_openAll : GoodIn wsX3_crash wsX0_openAll := goodIn_r _ [7, 8, 9, 10, 6, 11, 12, 22, 23, 24] (by decide +kernel) (by decide +kernel)
set_option maxRecDepth 20000 in
theorem gX3_crash_X0_openAll : GoodIn wsX3_crash (wsV RX3 72 RX0 yX0_openAll wsX0_openAll) := goodIn_app (goodIn_of _ (by decide +kernel)) ggX3_crash_X0_openAll
theorem dX3_crash_0 : decode cX3_crash 0 = .ok (.aload_n 0, 1) := by decide +kernel
theorem dX3_crash_1 : decode cX3_crash 1 = .ok (.iconst 1, 1) := by decide +kernel
theorem dX3_crash_2 : decode cX3_crash 2 = .ok (.putfield 76, 3) := by decide +kernel
theorem dX3_crash_5 : decode cX3_crash 5 = .ok (.aload_n 0, 1) := by decide +kernel
theorem dX3_crash_6 : decode cX3_crash 6 = .ok (.getfield 32, 3) := by decide +kernel
theorem dX3_crash_9 : decode cX3_crash 9 = .ok (.invokevirtual 72, 3) := by decide +kernel
theorem dX3_crash_12 : decode cX3_crash 12 = .ok (.ireturn, 1) := by decide +kernel
set_option maxRecDepth 20000 in
theorem ggX3_alarm_X0_isGuarded : GoodIn wsX3_alarm wsX0_isGuarded := goodIn_r _ [7, 8, 9, 10, 11, 12, 13, 6, 14, 15, 25, 26, 27] (by decide +kernel) (by decide +kernel)
set_option maxRecDepth 20000 in
theorem gX3_alarm_X0_isGuarded : GoodIn wsX3_alarm (wsV RX3 144 RX0 yX0_isGuarded wsX0_isGuarded) := goodIn_app (goodIn_of _ (by decide +kernel)) ggX3_alarm_X0_isGuarded
theorem dX3_alarm_0 : decode cX3_alarm 0 = .ok (.iload_n 1, 1) := by decide +kernel
theorem dX3_alarm_1 : decode cX3_alarm 1 = .ok (.ifCond .lt 9, 3) := by decide +kernel
theorem dX3_alarm_4 : decode cX3_alarm 4 = .ok (.iload_n 1, 1) := by decide +kernel
theorem dX3_alarm_5 : decode cX3_alarm 5 = .ok (.bipush 7, 2) := by decide +kernel
theorem dX3_alarm_7 : decode cX3_alarm 7 = .ok (.if_icmp .le 5, 3) := by decide +kernel
theorem dX3_alarm_10 : decode cX3_alarm 10 = .ok (.iconst (-1), 1) := by decide +kernel
theorem dX3_alarm_11 : decode cX3_alarm 11 = .ok (.ireturn, 1) := by decide +kernel
theorem dX3_alarm_12 : decode cX3_alarm 12 = .ok (.lload_n 2, 1) := by decide +kernel
theorem dX3_alarm_13 : decode cX3_alarm 13 = .ok (.aload_n 0, 1) := by decide +kernel
theorem dX3_alarm_14 : decode cX3_alarm 14 = .ok (.getfield 32, 3) := by decide +kernel
theorem dX3_alarm_17 : decode cX3_alarm 17 = .ok (.getfield 140, 3) := by decide +kernel
theorem dX3_alarm_20 : decode cX3_alarm 20 = .ok (.lcmp, 1) := by decide +kernel
theorem dX3_alarm_21 : decode cX3_alarm 21 = .ok (.ifCond .ge 6, 3) := by decide +kernel
theorem dX3_alarm_24 : decode cX3_alarm 24 = .ok (.bipush (-2), 2) := by decide +kernel
theorem dX3_alarm_26 : decode cX3_alarm 26 = .ok (.ireturn, 1) := by decide +kernel
theorem dX3_alarm_27 : decode cX3_alarm 27 = .ok (.aload_n 0, 1) := by decide +kernel
theorem dX3_alarm_28 : decode cX3_alarm 28 = .ok (.getfield 32, 3) := by decide +kernel
theorem dX3_alarm_31 : decode cX3_alarm 31 = .ok (.lload_n 2, 1) := by decide +kernel
theorem dX3_alarm_32 : decode cX3_alarm 32 = .ok (.putfield 140, 3) := by decide +kernel
theorem dX3_alarm_35 : decode cX3_alarm 35 = .ok (.aload_n 0, 1) := by decide +kernel
theorem dX3_alarm_36 : decode cX3_alarm 36 = .ok (.getfield 32, 3) := by decide +kernel
theorem dX3_alarm_39 : decode cX3_alarm 39 = .ok (.invokevirtual 144, 3) := by decide +kernel
theorem dX3_alarm_42 : decode cX3_alarm 42 = .ok (.ifCond .eq 7, 3) := by decide +kernel
theorem dX3_alarm_45 : decode cX3_alarm 45 = .ok (.iconst 1, 1) := by decide +kernel
theorem dX3_alarm_46 : decode cX3_alarm 46 = .ok (.goto 4, 3) := by decide +kernel
theorem dX3_alarm_49 : decode cX3_alarm 49 = .ok (.iconst 0, 1) := by decide +kernel
theorem dX3_alarm_50 : decode cX3_alarm 50 = .ok (.ireturn, 1) := by decide +kernel
set_option maxRecDepth 20000 in
theorem ggX3_battery_X3_find : GoodIn wsX3_battery wsX3_find := goodIn_r _ [6, 7, 8, 16, 17, 18, 19, 20, 21, 22, 23, 24] (by decide +kernel) (by decide +kernel)
set_option maxRecDepth 20000 in
theorem gX3_battery_X3_find : GoodIn wsX3_battery (wsV RX3 59 RX3 yX3_find wsX3_find) := goodIn_app (goodIn_of _ (by decide +kernel)) ggX3_battery_X3_find
theorem dX3_battery_0 : decode cX3_battery 0 = .ok (.aload_n 0, 1) := by decide +kernel
theorem dX3_battery_1 : decode cX3_battery 1 = .ok (.iload_n 1, 1) := by decide +kernel
theorem dX3_battery_2 : decode cX3_battery 2 = .ok (.invokevirtual 59, 3) := by decide +kernel
theorem dX3_battery_5 : decode cX3_battery 5 = .ok (.astore_n 2, 1) := by decide +kernel
theorem dX3_battery_6 : decode cX3_battery 6 = .ok (.aload_n 2, 1) := by decide +kernel
theorem dX3_battery_7 : decode cX3_battery 7 = .ok (.ifnonnull 7, 3) := by decide +kernel
theorem dX3_battery_10 : decode cX3_battery 10 = .ok (.iconst (-1), 1) := by decide +kernel
theorem dX3_battery_11 : decode cX3_battery 11 = .ok (.goto 7, 3) := by decide +kernel
theorem dX3_battery_14 : decode cX3_battery 14 = .ok (.aload_n 2, 1) := by decide +kernel
theorem dX3_battery_15 : decode cX3_battery 15 = .ok (.getfield 147, 3) := by decide +kernel
theorem dX3_battery_18 : decode cX3_battery 18 = .ok (.ireturn, 1) := by decide +kernel
set_option maxRecDepth 20000 in
theorem ggX3_octet_X1_has : GoodIn wsX3_octet wsX1_has := goodIn_r _ [10, 11, 12, 28, 29] (by decide +kernel) (by decide +kernel)
set_option maxRecDepth 20000 in
theorem gX3_octet_X1_has : GoodIn wsX3_octet (wsV RX3 150 RX1 yX1_has wsX1_has) := goodIn_app (goodIn_of _ (by decide +kernel)) ggX3_octet_X1_has
theorem dX3_octet_0 : decode cX3_octet 0 = .ok (.aload_n 0, 1) := by decide +kernel
theorem dX3_octet_1 : decode cX3_octet 1 = .ok (.getfield 26, 3) := by decide +kernel
theorem dX3_octet_4 : decode cX3_octet 4 = .ok (.iload_n 1, 1) := by decide +kernel
theorem dX3_octet_5 : decode cX3_octet 5 = .ok (.invokevirtual 150, 3) := by decide +kernel
theorem dX3_octet_8 : decode cX3_octet 8 = .ok (.ifCond .ne 11, 3) := by decide +kernel
theorem dX3_octet_11 : decode cX3_octet 11 = .ok (.new 153, 3) := by decide +kernel
theorem dX3_octet_14 : decode cX3_octet 14 = .ok (.dup, 1) := by decide +kernel
theorem dX3_octet_15 : decode cX3_octet 15 = .ok (.invokespecial 155, 3) := by decide +kernel
theorem dX3_octet_18 : decode cX3_octet 18 = .ok (.athrow, 1) := by decide +kernel
theorem dX3_octet_19 : decode cX3_octet 19 = .ok (.aload_n 0, 1) := by decide +kernel
theorem dX3_octet_20 : decode cX3_octet 20 = .ok (.getfield 26, 3) := by decide +kernel
theorem dX3_octet_23 : decode cX3_octet 23 = .ok (.getfield 156, 3) := by decide +kernel
theorem dX3_octet_26 : decode cX3_octet 26 = .ok (.iload_n 1, 1) := by decide +kernel
theorem dX3_octet_27 : decode cX3_octet 27 = .ok (.baload, 1) := by decide +kernel
theorem dX3_octet_28 : decode cX3_octet 28 = .ok (.ireturn, 1) := by decide +kernel
set_option maxRecDepth 20000 in
theorem ggX3_state_X0_has : GoodIn wsX3_state wsX0_has := goodIn_r _ [9, 10, 20, 21, 22] (by decide +kernel) (by decide +kernel)
set_option maxRecDepth 20000 in
theorem gX3_state_X0_has : GoodIn wsX3_state (wsV RX3 160 RX0 yX0_has wsX0_has) := goodIn_app (goodIn_of _ (by decide +kernel)) ggX3_state_X0_has
theorem dX3_state_0 : decode cX3_state 0 = .ok (.iload_n 1, 1) := by decide +kernel
theorem dX3_state_1 : decode cX3_state 1 = .ok (.iconst 5, 1) := by decide +kernel
theorem dX3_state_2 : decode cX3_state 2 = .ok (.if_icmp .ne 8, 3) := by decide +kernel
theorem dX3_state_5 : decode cX3_state 5 = .ok (.aload_n 0, 1) := by decide +kernel
theorem dX3_state_6 : decode cX3_state 6 = .ok (.getfield 113, 3) := by decide +kernel
theorem dX3_state_9 : decode cX3_state 9 = .ok (.ireturn, 1) := by decide +kernel
theorem dX3_state_10 : decode cX3_state 10 = .ok (.iload_n 1, 1) := by decide +kernel
theorem dX3_state_11 : decode cX3_state 11 = .ok (.bipush 6, 2) := by decide +kernel
theorem dX3_state_13 : decode cX3_state 13 = .ok (.if_icmp .ne 8, 3) := by decide +kernel
theorem dX3_state_16 : decode cX3_state 16 = .ok (.aload_n 0, 1) := by decide +kernel
theorem dX3_state_17 : decode cX3_state 17 = .ok (.getfield 129, 3) := by decide +kernel
theorem dX3_state_20 : decode cX3_state 20 = .ok (.ireturn, 1) := by decide +kernel
theorem dX3_state_21 : decode cX3_state 21 = .ok (.aload_n 0, 1) := by decide +kernel
theorem dX3_state_22 : decode cX3_state 22 = .ok (.getfield 32, 3) := by decide +kernel
theorem dX3_state_25 : decode cX3_state 25 = .ok (.iload_n 1, 1) := by decide +kernel
theorem dX3_state_26 : decode cX3_state 26 = .ok (.invokevirtual 160, 3) := by decide +kernel
theorem dX3_state_29 : decode cX3_state 29 = .ok (.ifCond .eq 15, 3) := by decide +kernel
theorem dX3_state_32 : decode cX3_state 32 = .ok (.aload_n 0, 1) := by decide +kernel
theorem dX3_state_33 : decode cX3_state 33 = .ok (.getfield 32, 3) := by decide +kernel
theorem dX3_state_36 : decode cX3_state 36 = .ok (.getfield 161, 3) := by decide +kernel
theorem dX3_state_39 : decode cX3_state 39 = .ok (.iload_n 1, 1) := by decide +kernel
theorem dX3_state_40 : decode cX3_state 40 = .ok (.iaload, 1) := by decide +kernel
theorem dX3_state_41 : decode cX3_state 41 = .ok (.goto 4, 3) := by decide +kernel
theorem dX3_state_44 : decode cX3_state 44 = .ok (.iconst (-1), 1) := by decide +kernel
theorem dX3_state_45 : decode cX3_state 45 = .ok (.ireturn, 1) := by decide +kernel
theorem dX3_find_0 : decode cX3_find 0 = .ok (.iload_n 1, 1) := by decide +kernel
theorem dX3_find_1 : decode cX3_find 1 = .ok (.iconst 1, 1) := by decide +kernel
theorem dX3_find_2 : decode cX3_find 2 = .ok (.if_icmp .lt 31, 3) := by decide +kernel
theorem dX3_find_5 : decode cX3_find 5 = .ok (.iload_n 1, 1) := by decide +kernel
theorem dX3_find_6 : decode cX3_find 6 = .ok (.aload_n 0, 1) := by decide +kernel
theorem dX3_find_7 : decode cX3_find 7 = .ok (.getfield 42, 3) := by decide +kernel
theorem dX3_find_10 : decode cX3_find 10 = .ok (.if_icmp .gt 23, 3) := by decide +kernel
theorem dX3_find_13 : decode cX3_find 13 = .ok (.iload_n 1, 1) := by decide +kernel
theorem dX3_find_14 : decode cX3_find 14 = .ok (.aload_n 0, 1) := by decide +kernel
theorem dX3_find_15 : decode cX3_find 15 = .ok (.getfield 15, 3) := by decide +kernel
theorem dX3_find_18 : decode cX3_find 18 = .ok (.arraylength, 1) := by decide +kernel
theorem dX3_find_19 : decode cX3_find 19 = .ok (.if_icmp .gt 14, 3) := by decide +kernel
theorem dX3_find_22 : decode cX3_find 22 = .ok (.aload_n 0, 1) := by decide +kernel
theorem dX3_find_23 : decode cX3_find 23 = .ok (.getfield 15, 3) := by decide +kernel
theorem dX3_find_26 : decode cX3_find 26 = .ok (.iload_n 1, 1) := by decide +kernel
theorem dX3_find_27 : decode cX3_find 27 = .ok (.iconst 1, 1) := by decide +kernel
theorem dX3_find_28 : decode cX3_find 28 = .ok (.isub, 1) := by decide +kernel
theorem dX3_find_29 : decode cX3_find 29 = .ok (.aaload, 1) := by decide +kernel
theorem dX3_find_30 : decode cX3_find 30 = .ok (.goto 4, 3) := by decide +kernel
theorem dX3_find_33 : decode cX3_find 33 = .ok (.aconst_null, 1) := by decide +kernel
theorem dX3_find_34 : decode cX3_find 34 = .ok (.areturn, 1) := by decide +kernel
set_option maxRecDepth 20000 in
theorem ggX3_isSecretOfAKey_X3_find : GoodIn wsX3_isSecretOfAKey wsX3_find := goodIn_r _ [7, 1, 8, 9, 10, 11, 12, 13, 14, 15, 16, 17] (by decide +kernel) (by decide +kernel)
set_option maxRecDepth 20000 in
theorem gX3_isSecretOfAKey_X3_find : GoodIn wsX3_isSecretOfAKey (wsV RX3 59 RX3 yX3_find wsX3_find) := goodIn_app (goodIn_of _ (by decide +kernel)) ggX3_isSecretOfAKey_X3_find
theorem dX3_isSecretOfAKey_0 : decode cX3_isSecretOfAKey 0 = .ok (.iconst 1, 1) := by decide +kernel
theorem dX3_isSecretOfAKey_1 : decode cX3_isSecretOfAKey 1 = .ok (.istore_n 3, 1) := by decide +kernel
theorem dX3_isSecretOfAKey_2 : decode cX3_isSecretOfAKey 2 = .ok (.iload_n 3, 1) := by decide +kernel
theorem dX3_isSecretOfAKey_3 : decode cX3_isSecretOfAKey 3 = .ok (.aload_n 0, 1) := by decide +kernel
theorem dX3_isSecretOfAKey_4 : decode cX3_isSecretOfAKey 4 = .ok (.getfield 42, 3) := by decide +kernel
theorem dX3_isSecretOfAKey_7 : decode cX3_isSecretOfAKey 7 = .ok (.if_icmp .gt 33, 3) := by decide +kernel
theorem dX3_isSecretOfAKey_10 : decode cX3_isSecretOfAKey 10 = .ok (.aload_n 0, 1) := by decide +kernel
theorem dX3_isSecretOfAKey_11 : decode cX3_isSecretOfAKey 11 = .ok (.iload_n 3, 1) := by decide +kernel
theorem dX3_isSecretOfAKey_12 : decode cX3_isSecretOfAKey 12 = .ok (.invokevirtual 59, 3) := by decide +kernel
theorem dX3_isSecretOfAKey_15 : decode cX3_isSecretOfAKey 15 = .ok (.astore 4, 2) := by decide +kernel
theorem dX3_isSecretOfAKey_17 : decode cX3_isSecretOfAKey 17 = .ok (.aload 4, 2) := by decide +kernel
theorem dX3_isSecretOfAKey_19 : decode cX3_isSecretOfAKey 19 = .ok (.ifnull 15, 3) := by decide +kernel
theorem dX3_isSecretOfAKey_22 : decode cX3_isSecretOfAKey 22 = .ok (.aload 4, 2) := by decide +kernel
theorem dX3_isSecretOfAKey_24 : decode cX3_isSecretOfAKey 24 = .ok (.getfield 165, 3) := by decide +kernel
theorem dX3_isSecretOfAKey_27 : decode cX3_isSecretOfAKey 27 = .ok (.lload_n 1, 1) := by decide +kernel
theorem dX3_isSecretOfAKey_28 : decode cX3_isSecretOfAKey 28 = .ok (.lcmp, 1) := by decide +kernel
theorem dX3_isSecretOfAKey_29 : decode cX3_isSecretOfAKey 29 = .ok (.ifCond .ne 5, 3) := by decide +kernel
theorem dX3_isSecretOfAKey_32 : decode cX3_isSecretOfAKey 32 = .ok (.iconst 1, 1) := by decide +kernel
theorem dX3_isSecretOfAKey_33 : decode cX3_isSecretOfAKey 33 = .ok (.ireturn, 1) := by decide +kernel
theorem dX3_isSecretOfAKey_34 : decode cX3_isSecretOfAKey 34 = .ok (.iinc 3 1, 3) := by decide +kernel
theorem dX3_isSecretOfAKey_37 : decode cX3_isSecretOfAKey 37 = .ok (.goto (-35), 3) := by decide +kernel
theorem dX3_isSecretOfAKey_40 : decode cX3_isSecretOfAKey 40 = .ok (.iconst 0, 1) := by decide +kernel
theorem dX3_isSecretOfAKey_41 : decode cX3_isSecretOfAKey 41 = .ok (.ireturn, 1) := by decide +kernel
set_option maxRecDepth 20000 in
theorem ggX3_learnedKeys_X3_find : GoodIn wsX3_learnedKeys wsX3_find := goodIn_r _ [7, 1, 8, 9, 10, 11, 12, 13, 14, 15, 16, 17] (by decide +kernel) (by decide +kernel)
set_option maxRecDepth 20000 in
theorem gX3_learnedKeys_X3_find : GoodIn wsX3_learnedKeys (wsV RX3 59 RX3 yX3_find wsX3_find) := goodIn_app (goodIn_of _ (by decide +kernel)) ggX3_learnedKeys_X3_find
theorem dX3_learnedKeys_0 : decode cX3_learnedKeys 0 = .ok (.iconst 0, 1) := by decide +kernel
theorem dX3_learnedKeys_1 : decode cX3_learnedKeys 1 = .ok (.istore_n 1, 1) := by decide +kernel
theorem dX3_learnedKeys_2 : decode cX3_learnedKeys 2 = .ok (.iconst 1, 1) := by decide +kernel
theorem dX3_learnedKeys_3 : decode cX3_learnedKeys 3 = .ok (.istore_n 2, 1) := by decide +kernel
theorem dX3_learnedKeys_4 : decode cX3_learnedKeys 4 = .ok (.iload_n 2, 1) := by decide +kernel
theorem dX3_learnedKeys_5 : decode cX3_learnedKeys 5 = .ok (.aload_n 0, 1) := by decide +kernel
theorem dX3_learnedKeys_6 : decode cX3_learnedKeys 6 = .ok (.getfield 42, 3) := by decide +kernel
theorem dX3_learnedKeys_9 : decode cX3_learnedKeys 9 = .ok (.if_icmp .gt 29, 3) := by decide +kernel
theorem dX3_learnedKeys_12 : decode cX3_learnedKeys 12 = .ok (.aload_n 0, 1) := by decide +kernel
theorem dX3_learnedKeys_13 : decode cX3_learnedKeys 13 = .ok (.iload_n 2, 1) := by decide +kernel
theorem dX3_learnedKeys_14 : decode cX3_learnedKeys 14 = .ok (.invokevirtual 59, 3) := by decide +kernel
theorem dX3_learnedKeys_17 : decode cX3_learnedKeys 17 = .ok (.astore_n 3, 1) := by decide +kernel
theorem dX3_learnedKeys_18 : decode cX3_learnedKeys 18 = .ok (.aload_n 3, 1) := by decide +kernel
theorem dX3_learnedKeys_19 : decode cX3_learnedKeys 19 = .ok (.ifnull 13, 3) := by decide +kernel
theorem dX3_learnedKeys_22 : decode cX3_learnedKeys 22 = .ok (.aload_n 3, 1) := by decide +kernel
theorem dX3_learnedKeys_23 : decode cX3_learnedKeys 23 = .ok (.getfield 89, 3) := by decide +kernel
theorem dX3_learnedKeys_26 : decode cX3_learnedKeys 26 = .ok (.ifCond .eq 6, 3) := by decide +kernel
theorem dX3_learnedKeys_29 : decode cX3_learnedKeys 29 = .ok (.iinc 1 1, 3) := by decide +kernel
theorem dX3_learnedKeys_32 : decode cX3_learnedKeys 32 = .ok (.iinc 2 1, 3) := by decide +kernel
theorem dX3_learnedKeys_35 : decode cX3_learnedKeys 35 = .ok (.goto (-31), 3) := by decide +kernel
theorem dX3_learnedKeys_38 : decode cX3_learnedKeys 38 = .ok (.iload_n 1, 1) := by decide +kernel
theorem dX3_learnedKeys_39 : decode cX3_learnedKeys 39 = .ok (.ireturn, 1) := by decide +kernel
set_option maxRecDepth 20000 in
theorem ggX3_judge_X1_isSound : GoodIn wsX3_judge wsX1_isSound := goodIn_r _ [9, 10, 11, 12, 13, 8, 14, 15, 16, 17, 18, 19, 141, 142] (by decide +kernel) (by decide +kernel)
set_option maxRecDepth 20000 in
theorem gX3_judge_X1_isSound : GoodIn wsX3_judge (wsV RX3 168 RX1 yX1_isSound wsX1_isSound) := goodIn_app (goodIn_of _ (by decide +kernel)) ggX3_judge_X1_isSound
set_option maxRecDepth 20000 in
theorem ggX3_judge_X1_command : GoodIn wsX3_judge wsX1_command := goodIn_r _ [23, 11, 12, 13, 8, 14, 15, 16, 17, 18, 19, 10, 141, 142] (by decide +kernel) (by decide +kernel)
set_option maxRecDepth 20000 in
theorem gX3_judge_X1_command : GoodIn wsX3_judge (wsV RX3 171 RX1 yX1_command wsX1_command) := goodIn_app (goodIn_of _ (by decide +kernel)) ggX3_judge_X1_command
set_option maxRecDepth 20000 in
theorem ggX3_judge_X1_sender : GoodIn wsX3_judge wsX1_sender := goodIn_r _ [27, 11, 12, 13, 8, 14, 15, 16, 17, 18, 19, 10, 141, 142] (by decide +kernel) (by decide +kernel)
set_option maxRecDepth 20000 in
theorem gX3_judge_X1_sender : GoodIn wsX3_judge (wsV RX3 174 RX1 yX1_sender wsX1_sender) := goodIn_app (goodIn_of _ (by decide +kernel)) ggX3_judge_X1_sender
set_option maxRecDepth 20000 in
theorem ggX3_judge_X3_find : GoodIn wsX3_judge wsX3_find := goodIn_r _ [32, 33, 34, 132, 133, 134, 135, 136, 137, 138, 139, 140] (by decide +kernel) (by decide +kernel)
set_option maxRecDepth 20000 in
theorem gX3_judge_X3_find : GoodIn wsX3_judge (wsV RX3 59 RX3 yX3_find wsX3_find) := goodIn_app (goodIn_of _ (by decide +kernel)) ggX3_judge_X3_find
set_option maxRecDepth 20000 in
theorem ggX3_judge_X1_code : GoodIn wsX3_judge wsX1_code := goodIn_r _ [38, 39, 11, 12, 13, 8, 14, 15, 16, 17, 18, 19, 10, 141, 142] (by decide +kernel) (by decide +kernel)
set_option maxRecDepth 20000 in
theorem gX3_judge_X1_code : GoodIn wsX3_judge (wsV RX3 177 RX1 yX1_code wsX1_code) := goodIn_app (goodIn_of _ (by decide +kernel)) ggX3_judge_X1_code
set_option maxRecDepth 20000 in
theorem ggX3_judge_X2_decipher : GoodIn wsX3_judge wsX2_decipher := goodIn_r _ [44, 45, 46, 47, 48, 43, 49, 50, 51, 52, 53, 54, 55, 56, 57, 58, 59, 125, 126, 127, 128, 129, 130, 131] (by decide +kernel) (by decide +kernel)
set_option maxRecDepth 20000 in
theorem gX3_judge_X2_decipher : GoodIn wsX3_judge (wsV RX3 181 RX2 yX2_decipher wsX2_decipher) := goodIn_app (goodIn_of _ (by decide +kernel)) ggX3_judge_X2_decipher
set_option maxRecDepth 20000 in
theorem ggX3_judge_X2_sign : GoodIn wsX3_judge wsX2_sign := goodIn_r _ [63, 51, 52, 53, 43, 54, 55, 45, 125, 126, 127, 128, 129, 130, 131] (by decide +kernel) (by decide +kernel)
set_option maxRecDepth 20000 in
theorem gX3_judge_X2_sign : GoodIn wsX3_judge (wsV RX3 184 RX2 yX2_sign wsX2_sign) := goodIn_app (goodIn_of _ (by decide +kernel)) ggX3_judge_X2_sign
set_option maxRecDepth 20000 in
theorem ggX3_judge_X2_roll : GoodIn wsX3_judge wsX2_roll := goodIn_r _ [67, 68, 45, 69, 70, 125, 126, 127, 128, 129, 130, 131] (by decide +kernel) (by decide +kernel)
set_option maxRecDepth 20000 in
theorem gX3_judge_X2_roll : GoodIn wsX3_judge (wsV RX3 188 RX2 yX2_roll wsX2_roll) := goodIn_app (goodIn_of _ (by decide +kernel)) ggX3_judge_X2_roll
set_option maxRecDepth 20000 in
theorem ggX3_judge_X1_flags : GoodIn wsX3_judge wsX1_flags := goodIn_r _ [74, 11, 12, 13, 8, 14, 15, 16, 17, 18, 19, 10, 141, 142] (by decide +kernel) (by decide +kernel)
set_option maxRecDepth 20000 in
theorem gX3_judge_X1_flags : GoodIn wsX3_judge (wsV RX3 192 RX1 yX1_flags wsX1_flags) := goodIn_app (goodIn_of _ (by decide +kernel)) ggX3_judge_X1_flags
set_option maxRecDepth 20000 in
theorem ggX3_judge_X3_obey : GoodIn wsX3_judge wsX3_obey := goodIn_r _ [78, 79, 80, 81, 82, 83, 84, 85, 86, 87, 88, 89, 90, 91, 92, 93, 94, 95, 96, 97, 98, 99, 100, 101, 102, 103, 104, 105, 106, 107, 108, 109, 110, 111, 112, 113, 114, 115, 116, 117, 118, 119, 120, 121, 122, 123, 124, 132, 133, 134, 135, 136, 137, 138, 139, 140, 143, 144, 145] (by decide +kernel) (by decide +kernel)
set_option maxRecDepth 20000 in
theorem gX3_judge_X3_obey : GoodIn wsX3_judge (wsV RX3 195 RX3 yX3_obey wsX3_obey) := goodIn_app (goodIn_of _ (by decide +kernel)) ggX3_judge_X3_obey
theorem dX3_judge_0 : decode cX3_judge 0 = .ok (.aload_n 1, 1) := by decide +kernel
theorem dX3_judge_1 : decode cX3_judge 1 = .ok (.invokevirtual 168, 3) := by decide +kernel
theorem dX3_judge_4 : decode cX3_judge 4 = .ok (.ifCond .eq 11, 3) := by decide +kernel
theorem dX3_judge_7 : decode cX3_judge 7 = .ok (.aload_n 1, 1) := by decide +kernel
theorem dX3_judge_8 : decode cX3_judge 8 = .ok (.invokevirtual 171, 3) := by decide +kernel
theorem dX3_judge_11 : decode cX3_judge 11 = .ok (.iconst 3, 1) := by decide +kernel
theorem dX3_judge_12 : decode cX3_judge 12 = .ok (.if_icmp .le 5, 3) := by decide +kernel
theorem dX3_judge_15 : decode cX3_judge 15 = .ok (.iconst 0, 1) := by decide +kernel
theorem dX3_judge_16 : decode cX3_judge 16 = .ok (.ireturn, 1) := by decide +kernel
theorem dX3_judge_17 : decode cX3_judge 17 = .ok (.aload_n 0, 1) := by decide +kernel
theorem dX3_judge_18 : decode cX3_judge 18 = .ok (.aload_n 1, 1) := by decide +kernel
theorem dX3_judge_19 : decode cX3_judge 19 = .ok (.invokevirtual 174, 3) := by decide +kernel
theorem dX3_judge_22 : decode cX3_judge 22 = .ok (.invokevirtual 59, 3) := by decide +kernel
theorem dX3_judge_25 : decode cX3_judge 25 = .ok (.astore_n 2, 1) := by decide +kernel
theorem dX3_judge_26 : decode cX3_judge 26 = .ok (.aload_n 2, 1) := by decide +kernel
theorem dX3_judge_27 : decode cX3_judge 27 = .ok (.ifnull 10, 3) := by decide +kernel
theorem dX3_judge_30 : decode cX3_judge 30 = .ok (.aload_n 2, 1) := by decide +kernel
theorem dX3_judge_31 : decode cX3_judge 31 = .ok (.getfield 89, 3) := by decide +kernel
theorem dX3_judge_34 : decode cX3_judge 34 = .ok (.ifCond .ne 5, 3) := by decide +kernel
theorem dX3_judge_37 : decode cX3_judge 37 = .ok (.iconst 0, 1) := by decide +kernel
theorem dX3_judge_38 : decode cX3_judge 38 = .ok (.ireturn, 1) := by decide +kernel
theorem dX3_judge_39 : decode cX3_judge 39 = .ok (.aload_n 2, 1) := by decide +kernel
theorem dX3_judge_40 : decode cX3_judge 40 = .ok (.aload_n 1, 1) := by decide +kernel
theorem dX3_judge_41 : decode cX3_judge 41 = .ok (.invokevirtual 177, 3) := by decide +kernel
theorem dX3_judge_44 : decode cX3_judge 44 = .ok (.invokevirtual 181, 3) := by decide +kernel
theorem dX3_judge_47 : decode cX3_judge 47 = .ok (.lstore_n 3, 1) := by decide +kernel
theorem dX3_judge_48 : decode cX3_judge 48 = .ok (.lload_n 3, 1) := by decide +kernel
theorem dX3_judge_49 : decode cX3_judge 49 = .ok (.bipush 16, 2) := by decide +kernel
theorem dX3_judge_51 : decode cX3_judge 51 = .ok (.lushr, 1) := by decide +kernel
theorem dX3_judge_52 : decode cX3_judge 52 = .ok (.aload_n 2, 1) := by decide +kernel
theorem dX3_judge_53 : decode cX3_judge 53 = .ok (.invokevirtual 184, 3) := by decide +kernel
theorem dX3_judge_56 : decode cX3_judge 56 = .ok (.i2l, 1) := by decide +kernel
theorem dX3_judge_57 : decode cX3_judge 57 = .ok (.lcmp, 1) := by decide +kernel
theorem dX3_judge_58 : decode cX3_judge 58 = .ok (.ifCond .eq 5, 3) := by decide +kernel
theorem dX3_judge_61 : decode cX3_judge 61 = .ok (.iconst 0, 1) := by decide +kernel
theorem dX3_judge_62 : decode cX3_judge 62 = .ok (.ireturn, 1) := by decide +kernel
theorem dX3_judge_63 : decode cX3_judge 63 = .ok (.aload_n 2, 1) := by decide +kernel
theorem dX3_judge_64 : decode cX3_judge 64 = .ok (.lload_n 3, 1) := by decide +kernel
theorem dX3_judge_65 : decode cX3_judge 65 = .ok (.l2i, 1) := by decide +kernel
theorem dX3_judge_66 : decode cX3_judge 66 = .ok (.ldc 187, 2) := by decide +kernel
theorem dX3_judge_68 : decode cX3_judge 68 = .ok (.iand, 1) := by decide +kernel
theorem dX3_judge_69 : decode cX3_judge 69 = .ok (.aload_n 0, 1) := by decide +kernel
theorem dX3_judge_70 : decode cX3_judge 70 = .ok (.getfield 9, 3) := by decide +kernel
theorem dX3_judge_73 : decode cX3_judge 73 = .ok (.invokevirtual 188, 3) := by decide +kernel
theorem dX3_judge_76 : decode cX3_judge 76 = .ok (.istore 5, 2) := by decide +kernel
theorem dX3_judge_78 : decode cX3_judge 78 = .ok (.iload 5, 2) := by decide +kernel
theorem dX3_judge_80 : decode cX3_judge 80 = .ok (.iconst 1, 1) := by decide +kernel
theorem dX3_judge_81 : decode cX3_judge 81 = .ok (.if_icmp .ne 21, 3) := by decide +kernel
theorem dX3_judge_84 : decode cX3_judge 84 = .ok (.aload_n 2, 1) := by decide +kernel
theorem dX3_judge_85 : decode cX3_judge 85 = .ok (.aload_n 1, 1) := by decide +kernel
theorem dX3_judge_86 : decode cX3_judge 86 = .ok (.invokevirtual 192, 3) := by decide +kernel
theorem dX3_judge_89 : decode cX3_judge 89 = .ok (.iconst 1, 1) := by decide +kernel
theorem dX3_judge_90 : decode cX3_judge 90 = .ok (.iand, 1) := by decide +kernel
theorem dX3_judge_91 : decode cX3_judge 91 = .ok (.putfield 147, 3) := by decide +kernel
theorem dX3_judge_94 : decode cX3_judge 94 = .ok (.aload_n 0, 1) := by decide +kernel
theorem dX3_judge_95 : decode cX3_judge 95 = .ok (.aload_n 1, 1) := by decide +kernel
theorem dX3_judge_96 : decode cX3_judge 96 = .ok (.invokevirtual 171, 3) := by decide +kernel
theorem dX3_judge_99 : decode cX3_judge 99 = .ok (.invokevirtual 195, 3) := by decide +kernel
theorem dX3_judge_102 : decode cX3_judge 102 = .ok (.iload 5, 2) := by decide +kernel
theorem dX3_judge_104 : decode cX3_judge 104 = .ok (.ireturn, 1) := by decide +kernel
set_option maxRecDepth 20000 in
theorem ggX3_obey_X0_openAll : GoodIn wsX3_obey wsX0_openAll := goodIn_r _ [7, 8, 9, 10, 6, 11, 12, 56, 57, 58] (by decide +kernel) (by decide +kernel)
set_option maxRecDepth 20000 in
theorem gX3_obey_X0_openAll : GoodIn wsX3_obey (wsV RX3 72 RX0 yX0_openAll wsX0_openAll) := goodIn_app (goodIn_of _ (by decide +kernel)) ggX3_obey_X0_openAll
set_option maxRecDepth 20000 in
theorem ggX3_obey_X0_openBootUnlessDead : GoodIn wsX3_obey wsX0_openBootUnlessDead := goodIn_r _ [16, 17, 18, 19, 6, 20, 12, 21, 22, 23, 24, 25, 26, 27, 28, 56, 57, 58] (by decide +kernel) (by decide +kernel)
set_option maxRecDepth 20000 in
theorem gX3_obey_X0_openBootUnlessDead : GoodIn wsX3_obey (wsV RX3 198 RX0 yX0_openBootUnlessDead wsX0_openBootUnlessDead) := goodIn_app (goodIn_of _ (by decide +kernel)) ggX3_obey_X0_openBootUnlessDead
set_option maxRecDepth 20000 in
theorem ggX3_obey_X0_shutAll : GoodIn wsX3_obey wsX0_shutAll := goodIn_r _ [32, 8, 9, 10, 6, 11, 12, 33, 34, 35, 36, 37, 38, 39, 40, 41, 42, 56, 57, 58] (by decide +kernel) (by decide +kernel)
set_option maxRecDepth 20000 in
theorem gX3_obey_X0_shutAll : GoodIn wsX3_obey (wsV RX3 86 RX0 yX0_shutAll wsX0_shutAll) := goodIn_app (goodIn_of _ (by decide +kernel)) ggX3_obey_X0_shutAll
set_option maxRecDepth 20000 in
theorem ggX3_obey_X0_deadenUnlessOpen : GoodIn wsX3_obey wsX0_deadenUnlessOpen := goodIn_r _ [46, 39, 40, 41, 6, 42, 12, 8, 9, 10, 11, 56, 57, 58] (by decide +kernel) (by decide +kernel)
set_option maxRecDepth 20000 in
theorem gX3_obey_X0_deadenUnlessOpen : GoodIn wsX3_obey (wsV RX3 80 RX0 yX0_deadenUnlessOpen wsX0_deadenUnlessOpen) := goodIn_app (goodIn_of _ (by decide +kernel)) ggX3_obey_X0_deadenUnlessOpen
theorem dX3_obey_0 : decode cX3_obey 0 = .ok (.iload_n 1, 1) := by decide +kernel
theorem dX3_obey_1 : decode cX3_obey 1 = .ok (.ifCond .ne 14, 3) := by decide +kernel
theorem dX3_obey_4 : decode cX3_obey 4 = .ok (.aload_n 0, 1) := by decide +kernel
theorem dX3_obey_5 : decode cX3_obey 5 = .ok (.getfield 32, 3) := by decide +kernel
theorem dX3_obey_8 : decode cX3_obey 8 = .ok (.invokevirtual 72, 3) := by decide +kernel
theorem dX3_obey_11 : decode cX3_obey 11 = .ok (.pop, 1) := by decide +kernel
theorem dX3_obey_12 : decode cX3_obey 12 = .ok (.goto 61, 3) := by decide +kernel
theorem dX3_obey_15 : decode cX3_obey 15 = .ok (.iload_n 1, 1) := by decide +kernel
theorem dX3_obey_16 : decode cX3_obey 16 = .ok (.iconst 2, 1) := by decide +kernel
theorem dX3_obey_17 : decode cX3_obey 17 = .ok (.if_icmp .ne 13, 3) := by decide +kernel
theorem dX3_obey_20 : decode cX3_obey 20 = .ok (.aload_n 0, 1) := by decide +kernel
theorem dX3_obey_21 : decode cX3_obey 21 = .ok (.getfield 32, 3) := by decide +kernel
theorem dX3_obey_24 : decode cX3_obey 24 = .ok (.invokevirtual 198, 3) := by decide +kernel
theorem dX3_obey_27 : decode cX3_obey 27 = .ok (.goto 46, 3) := by decide +kernel
theorem dX3_obey_30 : decode cX3_obey 30 = .ok (.aload_n 0, 1) := by decide +kernel
theorem dX3_obey_31 : decode cX3_obey 31 = .ok (.getfield 76, 3) := by decide +kernel
theorem dX3_obey_34 : decode cX3_obey 34 = .ok (.ifCond .ne 19, 3) := by decide +kernel
theorem dX3_obey_37 : decode cX3_obey 37 = .ok (.iload_n 1, 1) := by decide +kernel
theorem dX3_obey_38 : decode cX3_obey 38 = .ok (.iconst 1, 1) := by decide +kernel
theorem dX3_obey_39 : decode cX3_obey 39 = .ok (.if_icmp .ne 14, 3) := by decide +kernel
theorem dX3_obey_42 : decode cX3_obey 42 = .ok (.aload_n 0, 1) := by decide +kernel
theorem dX3_obey_43 : decode cX3_obey 43 = .ok (.getfield 32, 3) := by decide +kernel
theorem dX3_obey_46 : decode cX3_obey 46 = .ok (.invokevirtual 86, 3) := by decide +kernel
theorem dX3_obey_49 : decode cX3_obey 49 = .ok (.pop, 1) := by decide +kernel
theorem dX3_obey_50 : decode cX3_obey 50 = .ok (.goto 23, 3) := by decide +kernel
theorem dX3_obey_53 : decode cX3_obey 53 = .ok (.aload_n 0, 1) := by decide +kernel
theorem dX3_obey_54 : decode cX3_obey 54 = .ok (.getfield 76, 3) := by decide +kernel
theorem dX3_obey_57 : decode cX3_obey 57 = .ok (.ifCond .ne 16, 3) := by decide +kernel
theorem dX3_obey_60 : decode cX3_obey 60 = .ok (.iload_n 1, 1) := by decide +kernel
theorem dX3_obey_61 : decode cX3_obey 61 = .ok (.iconst 3, 1) := by decide +kernel
theorem dX3_obey_62 : decode cX3_obey 62 = .ok (.if_icmp .ne 11, 3) := by decide +kernel
theorem dX3_obey_65 : decode cX3_obey 65 = .ok (.aload_n 0, 1) := by decide +kernel
theorem dX3_obey_66 : decode cX3_obey 66 = .ok (.getfield 32, 3) := by decide +kernel
theorem dX3_obey_69 : decode cX3_obey 69 = .ok (.invokevirtual 80, 3) := by decide +kernel
theorem dX3_obey_72 : decode cX3_obey 72 = .ok (.pop, 1) := by decide +kernel
theorem dX3_obey_73 : decode cX3_obey 73 = .ok (.return_, 1) := by decide +kernel
theorem dX3_isWithin_0 : decode cX3_isWithin 0 = .ok (.lload_n 0, 1) := by decide +kernel
theorem dX3_isWithin_1 : decode cX3_isWithin 1 = .ok (.lload_n 2, 1) := by decide +kernel
theorem dX3_isWithin_2 : decode cX3_isWithin 2 = .ok (.lneg, 1) := by decide +kernel
theorem dX3_isWithin_3 : decode cX3_isWithin 3 = .ok (.lcmp, 1) := by decide +kernel
theorem dX3_isWithin_4 : decode cX3_isWithin 4 = .ok (.ifCond .lt 13, 3) := by decide +kernel
theorem dX3_isWithin_7 : decode cX3_isWithin 7 = .ok (.lload_n 0, 1) := by decide +kernel
theorem dX3_isWithin_8 : decode cX3_isWithin 8 = .ok (.lload_n 2, 1) := by decide +kernel
theorem dX3_isWithin_9 : decode cX3_isWithin 9 = .ok (.lcmp, 1) := by decide +kernel
theorem dX3_isWithin_10 : decode cX3_isWithin 10 = .ok (.ifCond .gt 7, 3) := by decide +kernel
theorem dX3_isWithin_13 : decode cX3_isWithin 13 = .ok (.iconst 1, 1) := by decide +kernel
theorem dX3_isWithin_14 : decode cX3_isWithin 14 = .ok (.goto 4, 3) := by decide +kernel
theorem dX3_isWithin_17 : decode cX3_isWithin 17 = .ok (.iconst 0, 1) := by decide +kernel
theorem dX3_isWithin_18 : decode cX3_isWithin 18 = .ok (.ireturn, 1) := by decide +kernel
theorem dX4_init_0 : decode cX4_init 0 = .ok (.aload_n 0, 1) := by decide +kernel
theorem dX4_init_1 : decode cX4_init 1 = .ok (.invokespecial 1, 3) := by decide +kernel
theorem dX4_init_4 : decode cX4_init 4 = .ok (.aload_n 0, 1) := by decide +kernel
theorem dX4_init_5 : decode cX4_init 5 = .ok (.bipush 9, 2) := by decide +kernel
theorem dX4_init_7 : decode cX4_init 7 = .ok (.newarray .long, 2) := by decide +kernel
theorem dX4_init_9 : decode cX4_init 9 = .ok (.putfield 7, 3) := by decide +kernel
theorem dX4_init_12 : decode cX4_init 12 = .ok (.aload_n 0, 1) := by decide +kernel
theorem dX4_init_13 : decode cX4_init 13 = .ok (.bipush 9, 2) := by decide +kernel
theorem dX4_init_15 : decode cX4_init 15 = .ok (.newarray .int, 2) := by decide +kernel
theorem dX4_init_17 : decode cX4_init 17 = .ok (.putfield 13, 3) := by decide +kernel
theorem dX4_init_20 : decode cX4_init 20 = .ok (.aload_n 0, 1) := by decide +kernel
theorem dX4_init_21 : decode cX4_init 21 = .ok (.bipush 9, 2) := by decide +kernel
theorem dX4_init_23 : decode cX4_init 23 = .ok (.newarray .int, 2) := by decide +kernel
theorem dX4_init_25 : decode cX4_init 25 = .ok (.putfield 17, 3) := by decide +kernel
theorem dX4_init_28 : decode cX4_init 28 = .ok (.aload_n 0, 1) := by decide +kernel
theorem dX4_init_29 : decode cX4_init 29 = .ok (.bipush 9, 2) := by decide +kernel
theorem dX4_init_31 : decode cX4_init 31 = .ok (.newarray .boolean, 2) := by decide +kernel
theorem dX4_init_33 : decode cX4_init 33 = .ok (.putfield 20, 3) := by decide +kernel
theorem dX4_init_36 : decode cX4_init 36 = .ok (.aload_n 0, 1) := by decide +kernel
theorem dX4_init_37 : decode cX4_init 37 = .ok (.bipush 9, 2) := by decide +kernel
theorem dX4_init_39 : decode cX4_init 39 = .ok (.newarray .boolean, 2) := by decide +kernel
theorem dX4_init_41 : decode cX4_init 41 = .ok (.putfield 24, 3) := by decide +kernel
theorem dX4_init_44 : decode cX4_init 44 = .ok (.aload_n 0, 1) := by decide +kernel
theorem dX4_init_45 : decode cX4_init 45 = .ok (.bipush 9, 2) := by decide +kernel
theorem dX4_init_47 : decode cX4_init 47 = .ok (.newarray .boolean, 2) := by decide +kernel
theorem dX4_init_49 : decode cX4_init 49 = .ok (.putfield 27, 3) := by decide +kernel
theorem dX4_init_52 : decode cX4_init 52 = .ok (.aload_n 0, 1) := by decide +kernel
theorem dX4_init_53 : decode cX4_init 53 = .ok (.bipush 9, 2) := by decide +kernel
theorem dX4_init_55 : decode cX4_init 55 = .ok (.newarray .int, 2) := by decide +kernel
theorem dX4_init_57 : decode cX4_init 57 = .ok (.putfield 30, 3) := by decide +kernel
theorem dX4_init_60 : decode cX4_init 60 = .ok (.aload_n 0, 1) := by decide +kernel
theorem dX4_init_61 : decode cX4_init 61 = .ok (.iconst 5, 1) := by decide +kernel
theorem dX4_init_62 : decode cX4_init 62 = .ok (.newarray .int, 2) := by decide +kernel
theorem dX4_init_64 : decode cX4_init 64 = .ok (.putfield 33, 3) := by decide +kernel
theorem dX4_init_67 : decode cX4_init 67 = .ok (.aload_n 0, 1) := by decide +kernel
theorem dX4_init_68 : decode cX4_init 68 = .ok (.bipush 16, 2) := by decide +kernel
theorem dX4_init_70 : decode cX4_init 70 = .ok (.newarray .int, 2) := by decide +kernel
theorem dX4_init_72 : decode cX4_init 72 = .ok (.putfield 36, 3) := by decide +kernel
theorem dX4_init_75 : decode cX4_init 75 = .ok (.aload_n 0, 1) := by decide +kernel
theorem dX4_init_76 : decode cX4_init 76 = .ok (.bipush 16, 2) := by decide +kernel
theorem dX4_init_78 : decode cX4_init 78 = .ok (.newarray .int, 2) := by decide +kernel
theorem dX4_init_80 : decode cX4_init 80 = .ok (.putfield 39, 3) := by decide +kernel
theorem dX4_init_83 : decode cX4_init 83 = .ok (.aload_n 0, 1) := by decide +kernel
theorem dX4_init_84 : decode cX4_init 84 = .ok (.iload_n 1, 1) := by decide +kernel
theorem dX4_init_85 : decode cX4_init 85 = .ok (.iconst 1, 1) := by decide +kernel
theorem dX4_init_86 : decode cX4_init 86 = .ok (.if_icmp .lt 14, 3) := by decide +kernel
theorem dX4_init_89 : decode cX4_init 89 = .ok (.iload_n 1, 1) := by decide +kernel
theorem dX4_init_90 : decode cX4_init 90 = .ok (.sipush 32767, 3) := by decide +kernel
theorem dX4_init_93 : decode cX4_init 93 = .ok (.if_icmp .gt 7, 3) := by decide +kernel
theorem dX4_init_96 : decode cX4_init 96 = .ok (.iload_n 1, 1) := by decide +kernel
theorem dX4_init_97 : decode cX4_init 97 = .ok (.goto 5, 3) := by decide +kernel
theorem dX4_init_100 : decode cX4_init 100 = .ok (.bipush 16, 2) := by decide +kernel
theorem dX4_init_102 : decode cX4_init 102 = .ok (.putfield 42, 3) := by decide +kernel
theorem dX4_init_105 : decode cX4_init 105 = .ok (.iconst 0, 1) := by decide +kernel
theorem dX4_init_106 : decode cX4_init 106 = .ok (.istore_n 2, 1) := by decide +kernel
theorem dX4_init_107 : decode cX4_init 107 = .ok (.iload_n 2, 1) := by decide +kernel
theorem dX4_init_108 : decode cX4_init 108 = .ok (.iconst 5, 1) := by decide +kernel
theorem dX4_init_109 : decode cX4_init 109 = .ok (.if_icmp .ge 16, 3) := by decide +kernel
theorem dX4_init_112 : decode cX4_init 112 = .ok (.aload_n 0, 1) := by decide +kernel
theorem dX4_init_113 : decode cX4_init 113 = .ok (.getfield 33, 3) := by decide +kernel
theorem dX4_init_116 : decode cX4_init 116 = .ok (.iload_n 2, 1) := by decide +kernel
theorem dX4_init_117 : decode cX4_init 117 = .ok (.iconst 1, 1) := by decide +kernel
theorem dX4_init_118 : decode cX4_init 118 = .ok (.iastore, 1) := by decide +kernel
theorem dX4_init_119 : decode cX4_init 119 = .ok (.iinc 2 1, 3) := by decide +kernel
theorem dX4_init_122 : decode cX4_init 122 = .ok (.goto (-15), 3) := by decide +kernel
theorem dX4_init_125 : decode cX4_init 125 = .ok (.return_, 1) := by decide +kernel
theorem dX4_thrown_0 : decode cX4_thrown 0 = .ok (.aload_n 0, 1) := by decide +kernel
theorem dX4_thrown_1 : decode cX4_thrown 1 = .ok (.getfield 46, 3) := by decide +kernel
theorem dX4_thrown_4 : decode cX4_thrown 4 = .ok (.ireturn, 1) := by decide +kernel
theorem dX4_none_0 : decode cX4_none 0 = .ok (.aload_n 0, 1) := by decide +kernel
theorem dX4_none_1 : decode cX4_none 1 = .ok (.iconst 0, 1) := by decide +kernel
theorem dX4_none_2 : decode cX4_none 2 = .ok (.putfield 46, 3) := by decide +kernel
theorem dX4_none_5 : decode cX4_none 5 = .ok (.iload_n 1, 1) := by decide +kernel
theorem dX4_none_6 : decode cX4_none 6 = .ok (.iconst 1, 1) := by decide +kernel
theorem dX4_none_7 : decode cX4_none 7 = .ok (.if_icmp .lt 11, 3) := by decide +kernel
theorem dX4_none_10 : decode cX4_none 10 = .ok (.iload_n 1, 1) := by decide +kernel
theorem dX4_none_11 : decode cX4_none 11 = .ok (.aload_n 0, 1) := by decide +kernel
theorem dX4_none_12 : decode cX4_none 12 = .ok (.getfield 49, 3) := by decide +kernel
theorem dX4_none_15 : decode cX4_none 15 = .ok (.if_icmp .le 7, 3) := by decide +kernel
theorem dX4_none_18 : decode cX4_none 18 = .ok (.iconst 1, 1) := by decide +kernel
theorem dX4_none_19 : decode cX4_none 19 = .ok (.goto 4, 3) := by decide +kernel
theorem dX4_none_22 : decode cX4_none 22 = .ok (.iconst 0, 1) := by decide +kernel
theorem dX4_none_23 : decode cX4_none 23 = .ok (.ireturn, 1) := by decide +kernel
theorem dX4_rounds_0 : decode cX4_rounds 0 = .ok (.iload_n 2, 1) := by decide +kernel
theorem dX4_rounds_1 : decode cX4_rounds 1 = .ok (.istore 5, 2) := by decide +kernel
theorem dX4_rounds_3 : decode cX4_rounds 3 = .ok (.iload_n 3, 1) := by decide +kernel
theorem dX4_rounds_4 : decode cX4_rounds 4 = .ok (.istore 6, 2) := by decide +kernel
theorem dX4_rounds_6 : decode cX4_rounds 6 = .ok (.iconst 0, 1) := by decide +kernel
theorem dX4_rounds_7 : decode cX4_rounds 7 = .ok (.istore 7, 2) := by decide +kernel
theorem dX4_rounds_9 : decode cX4_rounds 9 = .ok (.iload 7, 2) := by decide +kernel
theorem dX4_rounds_11 : decode cX4_rounds 11 = .ok (.bipush 16, 2) := by decide +kernel
theorem dX4_rounds_13 : decode cX4_rounds 13 = .ok (.if_icmp .ge 89, 3) := by decide +kernel
theorem dX4_rounds_16 : decode cX4_rounds 16 = .ok (.iload 4, 2) := by decide +kernel
theorem dX4_rounds_18 : decode cX4_rounds 18 = .ok (.ifCond .eq 11, 3) := by decide +kernel
theorem dX4_rounds_21 : decode cX4_rounds 21 = .ok (.bipush 15, 2) := by decide +kernel
theorem dX4_rounds_23 : decode cX4_rounds 23 = .ok (.iload 7, 2) := by decide +kernel
theorem dX4_rounds_25 : decode cX4_rounds 25 = .ok (.isub, 1) := by decide +kernel
theorem dX4_rounds_26 : decode cX4_rounds 26 = .ok (.goto 5, 3) := by decide +kernel
theorem dX4_rounds_29 : decode cX4_rounds 29 = .ok (.iload 7, 2) := by decide +kernel
theorem dX4_rounds_31 : decode cX4_rounds 31 = .ok (.istore 8, 2) := by decide +kernel
theorem dX4_rounds_33 : decode cX4_rounds 33 = .ok (.lload_n 0, 1) := by decide +kernel
theorem dX4_rounds_34 : decode cX4_rounds 34 = .ok (.bipush 16, 2) := by decide +kernel
theorem dX4_rounds_36 : decode cX4_rounds 36 = .ok (.iload 8, 2) := by decide +kernel
theorem dX4_rounds_38 : decode cX4_rounds 38 = .ok (.iconst 4, 1) := by decide +kernel
theorem dX4_rounds_39 : decode cX4_rounds 39 = .ok (.irem, 1) := by decide +kernel
theorem dX4_rounds_40 : decode cX4_rounds 40 = .ok (.imul, 1) := by decide +kernel
theorem dX4_rounds_41 : decode cX4_rounds 41 = .ok (.lshr, 1) := by decide +kernel
theorem dX4_rounds_42 : decode cX4_rounds 42 = .ok (.ldc2_w 52, 3) := by decide +kernel
theorem dX4_rounds_45 : decode cX4_rounds 45 = .ok (.land, 1) := by decide +kernel
theorem dX4_rounds_46 : decode cX4_rounds 46 = .ok (.l2i, 1) := by decide +kernel
theorem dX4_rounds_47 : decode cX4_rounds 47 = .ok (.istore 9, 2) := by decide +kernel
theorem dX4_rounds_49 : decode cX4_rounds 49 = .ok (.iload 6, 2) := by decide +kernel
theorem dX4_rounds_51 : decode cX4_rounds 51 = .ok (.ldc 54, 2) := by decide +kernel
theorem dX4_rounds_53 : decode cX4_rounds 53 = .ok (.imul, 1) := by decide +kernel
theorem dX4_rounds_54 : decode cX4_rounds 54 = .ok (.iload 9, 2) := by decide +kernel
theorem dX4_rounds_56 : decode cX4_rounds 56 = .ok (.iconst 2, 1) := by decide +kernel
theorem dX4_rounds_57 : decode cX4_rounds 57 = .ok (.iload 8, 2) := by decide +kernel
theorem dX4_rounds_59 : decode cX4_rounds 59 = .ok (.imul, 1) := by decide +kernel
theorem dX4_rounds_60 : decode cX4_rounds 60 = .ok (.iconst 1, 1) := by decide +kernel
theorem dX4_rounds_61 : decode cX4_rounds 61 = .ok (.iadd, 1) := by decide +kernel
theorem dX4_rounds_62 : decode cX4_rounds 62 = .ok (.imul, 1) := by decide +kernel
theorem dX4_rounds_63 : decode cX4_rounds 63 = .ok (.iadd, 1) := by decide +kernel
theorem dX4_rounds_64 : decode cX4_rounds 64 = .ok (.iload 6, 2) := by decide +kernel
theorem dX4_rounds_66 : decode cX4_rounds 66 = .ok (.bipush 32, 2) := by decide +kernel
theorem dX4_rounds_68 : decode cX4_rounds 68 = .ok (.idiv, 1) := by decide +kernel
theorem dX4_rounds_69 : decode cX4_rounds 69 = .ok (.ixor, 1) := by decide +kernel
theorem dX4_rounds_70 : decode cX4_rounds 70 = .ok (.iload 9, 2) := by decide +kernel
theorem dX4_rounds_72 : decode cX4_rounds 72 = .ok (.bipush 8, 2) := by decide +kernel
theorem dX4_rounds_74 : decode cX4_rounds 74 = .ok (.imul, 1) := by decide +kernel
theorem dX4_rounds_75 : decode cX4_rounds 75 = .ok (.ixor, 1) := by decide +kernel
theorem dX4_rounds_76 : decode cX4_rounds 76 = .ok (.ldc 55, 2) := by decide +kernel
theorem dX4_rounds_78 : decode cX4_rounds 78 = .ok (.iand, 1) := by decide +kernel
theorem dX4_rounds_79 : decode cX4_rounds 79 = .ok (.istore 10, 2) := by decide +kernel
theorem dX4_rounds_81 : decode cX4_rounds 81 = .ok (.iload 5, 2) := by decide +kernel
theorem dX4_rounds_83 : decode cX4_rounds 83 = .ok (.iload 10, 2) := by decide +kernel
theorem dX4_rounds_85 : decode cX4_rounds 85 = .ok (.ixor, 1) := by decide +kernel
theorem dX4_rounds_86 : decode cX4_rounds 86 = .ok (.istore 11, 2) := by decide +kernel
theorem dX4_rounds_88 : decode cX4_rounds 88 = .ok (.iload 6, 2) := by decide +kernel
theorem dX4_rounds_90 : decode cX4_rounds 90 = .ok (.istore 5, 2) := by decide +kernel
theorem dX4_rounds_92 : decode cX4_rounds 92 = .ok (.iload 11, 2) := by decide +kernel
theorem dX4_rounds_94 : decode cX4_rounds 94 = .ok (.istore 6, 2) := by decide +kernel
theorem dX4_rounds_96 : decode cX4_rounds 96 = .ok (.iinc 7 1, 3) := by decide +kernel
theorem dX4_rounds_99 : decode cX4_rounds 99 = .ok (.goto (-90), 3) := by decide +kernel
theorem dX4_rounds_102 : decode cX4_rounds 102 = .ok (.iload 5, 2) := by decide +kernel
theorem dX4_rounds_104 : decode cX4_rounds 104 = .ok (.bipush 16, 2) := by decide +kernel
theorem dX4_rounds_106 : decode cX4_rounds 106 = .ok (.ishl, 1) := by decide +kernel
theorem dX4_rounds_107 : decode cX4_rounds 107 = .ok (.iload 6, 2) := by decide +kernel
theorem dX4_rounds_109 : decode cX4_rounds 109 = .ok (.ior, 1) := by decide +kernel
theorem dX4_rounds_110 : decode cX4_rounds 110 = .ok (.ireturn, 1) := by decide +kernel
theorem dX4_sign_0 : decode cX4_sign 0 = .ok (.lload_n 0, 1) := by decide +kernel
theorem dX4_sign_1 : decode cX4_sign 1 = .ok (.lload_n 0, 1) := by decide +kernel
theorem dX4_sign_2 : decode cX4_sign 2 = .ok (.bipush 16, 2) := by decide +kernel
theorem dX4_sign_4 : decode cX4_sign 4 = .ok (.lshr, 1) := by decide +kernel
theorem dX4_sign_5 : decode cX4_sign 5 = .ok (.lxor, 1) := by decide +kernel
theorem dX4_sign_6 : decode cX4_sign 6 = .ok (.lload_n 0, 1) := by decide +kernel
theorem dX4_sign_7 : decode cX4_sign 7 = .ok (.bipush 32, 2) := by decide +kernel
theorem dX4_sign_9 : decode cX4_sign 9 = .ok (.lshr, 1) := by decide +kernel
theorem dX4_sign_10 : decode cX4_sign 10 = .ok (.lxor, 1) := by decide +kernel
theorem dX4_sign_11 : decode cX4_sign 11 = .ok (.lload_n 0, 1) := by decide +kernel
theorem dX4_sign_12 : decode cX4_sign 12 = .ok (.bipush 48, 2) := by decide +kernel
theorem dX4_sign_14 : decode cX4_sign 14 = .ok (.lshr, 1) := by decide +kernel
theorem dX4_sign_15 : decode cX4_sign 15 = .ok (.lxor, 1) := by decide +kernel
theorem dX4_sign_16 : decode cX4_sign 16 = .ok (.ldc2_w 52, 3) := by decide +kernel
theorem dX4_sign_19 : decode cX4_sign 19 = .ok (.land, 1) := by decide +kernel
theorem dX4_sign_20 : decode cX4_sign 20 = .ok (.l2i, 1) := by decide +kernel
theorem dX4_sign_21 : decode cX4_sign 21 = .ok (.ireturn, 1) := by decide +kernel
set_option maxRecDepth 20000 in
theorem ggX4_back_X4_rounds : GoodIn wsX4_back wsX4_rounds := goodIn_r _ [5, 6, 7, 1] (by decide +kernel) (by decide +kernel)
set_option maxRecDepth 20000 in
theorem gX4_back_X4_rounds : GoodIn wsX4_back (va_wsS RX4 56 yX4_rounds wsX4_rounds) := goodIn_app (goodIn_of _ (by decide +kernel)) ggX4_back_X4_rounds
theorem dX4_back_0 : decode cX4_back 0 = .ok (.lload_n 0, 1) := by decide +kernel
theorem dX4_back_1 : decode cX4_back 1 = .ok (.iload_n 2, 1) := by decide +kernel
theorem dX4_back_2 : decode cX4_back 2 = .ok (.ldc 55, 2) := by decide +kernel
theorem dX4_back_4 : decode cX4_back 4 = .ok (.iand, 1) := by decide +kernel
theorem dX4_back_5 : decode cX4_back 5 = .ok (.iload_n 2, 1) := by decide +kernel
theorem dX4_back_6 : decode cX4_back 6 = .ok (.bipush 16, 2) := by decide +kernel
theorem dX4_back_8 : decode cX4_back 8 = .ok (.ishr, 1) := by decide +kernel
theorem dX4_back_9 : decode cX4_back 9 = .ok (.ldc 55, 2) := by decide +kernel
theorem dX4_back_11 : decode cX4_back 11 = .ok (.iand, 1) := by decide +kernel
theorem dX4_back_12 : decode cX4_back 12 = .ok (.iconst 1, 1) := by decide +kernel
theorem dX4_back_13 : decode cX4_back 13 = .ok (.invokestatic 56, 3) := by decide +kernel
theorem dX4_back_16 : decode cX4_back 16 = .ok (.istore_n 3, 1) := by decide +kernel
theorem dX4_back_17 : decode cX4_back 17 = .ok (.iload_n 3, 1) := by decide +kernel
theorem dX4_back_18 : decode cX4_back 18 = .ok (.bipush 16, 2) := by decide +kernel
theorem dX4_back_20 : decode cX4_back 20 = .ok (.ishl, 1) := by decide +kernel
theorem dX4_back_21 : decode cX4_back 21 = .ok (.iload_n 3, 1) := by decide +kernel
theorem dX4_back_22 : decode cX4_back 22 = .ok (.bipush 16, 2) := by decide +kernel
theorem dX4_back_24 : decode cX4_back 24 = .ok (.ishr, 1) := by decide +kernel
theorem dX4_back_25 : decode cX4_back 25 = .ok (.ldc 55, 2) := by decide +kernel
theorem dX4_back_27 : decode cX4_back 27 = .ok (.iand, 1) := by decide +kernel
theorem dX4_back_28 : decode cX4_back 28 = .ok (.ior, 1) := by decide +kernel
theorem dX4_back_29 : decode cX4_back 29 = .ok (.ireturn, 1) := by decide +kernel
theorem dX4_key_0 : decode cX4_key 0 = .ok (.aload_n 0, 1) := by decide +kernel
theorem dX4_key_1 : decode cX4_key 1 = .ok (.iconst 0, 1) := by decide +kernel
theorem dX4_key_2 : decode cX4_key 2 = .ok (.putfield 46, 3) := by decide +kernel
theorem dX4_key_5 : decode cX4_key 5 = .ok (.lload_n 3, 1) := by decide +kernel
theorem dX4_key_6 : decode cX4_key 6 = .ok (.lconst 0, 1) := by decide +kernel
theorem dX4_key_7 : decode cX4_key 7 = .ok (.lcmp, 1) := by decide +kernel
theorem dX4_key_8 : decode cX4_key 8 = .ok (.ifCond .lt 11, 3) := by decide +kernel
theorem dX4_key_11 : decode cX4_key 11 = .ok (.lload_n 3, 1) := by decide +kernel
theorem dX4_key_12 : decode cX4_key 12 = .ok (.ldc2_w 52, 3) := by decide +kernel
theorem dX4_key_15 : decode cX4_key 15 = .ok (.lcmp, 1) := by decide +kernel
theorem dX4_key_16 : decode cX4_key 16 = .ok (.ifCond .le 6, 3) := by decide +kernel
theorem dX4_key_19 : decode cX4_key 19 = .ok (.bipush (-2), 2) := by decide +kernel
theorem dX4_key_21 : decode cX4_key 21 = .ok (.ireturn, 1) := by decide +kernel
theorem dX4_key_22 : decode cX4_key 22 = .ok (.iconst 1, 1) := by decide +kernel
theorem dX4_key_23 : decode cX4_key 23 = .ok (.istore 5, 2) := by decide +kernel
theorem dX4_key_25 : decode cX4_key 25 = .ok (.iload 5, 2) := by decide +kernel
theorem dX4_key_27 : decode cX4_key 27 = .ok (.aload_n 0, 1) := by decide +kernel
theorem dX4_key_28 : decode cX4_key 28 = .ok (.getfield 49, 3) := by decide +kernel
theorem dX4_key_31 : decode cX4_key 31 = .ok (.if_icmp .gt 24, 3) := by decide +kernel
theorem dX4_key_34 : decode cX4_key 34 = .ok (.aload_n 0, 1) := by decide +kernel
theorem dX4_key_35 : decode cX4_key 35 = .ok (.getfield 7, 3) := by decide +kernel
theorem dX4_key_38 : decode cX4_key 38 = .ok (.iload 5, 2) := by decide +kernel
theorem dX4_key_40 : decode cX4_key 40 = .ok (.laload, 1) := by decide +kernel
theorem dX4_key_41 : decode cX4_key 41 = .ok (.lload_n 1, 1) := by decide +kernel
theorem dX4_key_42 : decode cX4_key 42 = .ok (.lcmp, 1) := by decide +kernel
theorem dX4_key_43 : decode cX4_key 43 = .ok (.ifCond .ne 6, 3) := by decide +kernel
theorem dX4_key_46 : decode cX4_key 46 = .ok (.bipush (-3), 2) := by decide +kernel
theorem dX4_key_48 : decode cX4_key 48 = .ok (.ireturn, 1) := by decide +kernel
theorem dX4_key_49 : decode cX4_key 49 = .ok (.iinc 5 1, 3) := by decide +kernel
theorem dX4_key_52 : decode cX4_key 52 = .ok (.goto (-27), 3) := by decide +kernel
theorem dX4_key_55 : decode cX4_key 55 = .ok (.aload_n 0, 1) := by decide +kernel
theorem dX4_key_56 : decode cX4_key 56 = .ok (.getfield 49, 3) := by decide +kernel
theorem dX4_key_59 : decode cX4_key 59 = .ok (.bipush 8, 2) := by decide +kernel
theorem dX4_key_61 : decode cX4_key 61 = .ok (.if_icmp .ne 6, 3) := by decide +kernel
theorem dX4_key_64 : decode cX4_key 64 = .ok (.bipush (-4), 2) := by decide +kernel
theorem dX4_key_66 : decode cX4_key 66 = .ok (.ireturn, 1) := by decide +kernel
theorem dX4_key_67 : decode cX4_key 67 = .ok (.aload_n 0, 1) := by decide +kernel
theorem dX4_key_68 : decode cX4_key 68 = .ok (.dup, 1) := by decide +kernel
theorem dX4_key_69 : decode cX4_key 69 = .ok (.getfield 49, 3) := by decide +kernel
theorem dX4_key_72 : decode cX4_key 72 = .ok (.iconst 1, 1) := by decide +kernel
theorem dX4_key_73 : decode cX4_key 73 = .ok (.iadd, 1) := by decide +kernel
theorem dX4_key_74 : decode cX4_key 74 = .ok (.putfield 49, 3) := by decide +kernel
theorem dX4_key_77 : decode cX4_key 77 = .ok (.aload_n 0, 1) := by decide +kernel
theorem dX4_key_78 : decode cX4_key 78 = .ok (.getfield 7, 3) := by decide +kernel
theorem dX4_key_81 : decode cX4_key 81 = .ok (.aload_n 0, 1) := by decide +kernel
theorem dX4_key_82 : decode cX4_key 82 = .ok (.getfield 49, 3) := by decide +kernel
theorem dX4_key_85 : decode cX4_key 85 = .ok (.lload_n 1, 1) := by decide +kernel
theorem dX4_key_86 : decode cX4_key 86 = .ok (.lastore, 1) := by decide +kernel
theorem dX4_key_87 : decode cX4_key 87 = .ok (.aload_n 0, 1) := by decide +kernel
theorem dX4_key_88 : decode cX4_key 88 = .ok (.getfield 13, 3) := by decide +kernel
theorem dX4_key_91 : decode cX4_key 91 = .ok (.aload_n 0, 1) := by decide +kernel
theorem dX4_key_92 : decode cX4_key 92 = .ok (.getfield 49, 3) := by decide +kernel
theorem dX4_key_95 : decode cX4_key 95 = .ok (.lload_n 3, 1) := by decide +kernel
theorem dX4_key_96 : decode cX4_key 96 = .ok (.l2i, 1) := by decide +kernel
theorem dX4_key_97 : decode cX4_key 97 = .ok (.iastore, 1) := by decide +kernel
theorem dX4_key_98 : decode cX4_key 98 = .ok (.aload_n 0, 1) := by decide +kernel
theorem dX4_key_99 : decode cX4_key 99 = .ok (.getfield 17, 3) := by decide +kernel
theorem dX4_key_102 : decode cX4_key 102 = .ok (.aload_n 0, 1) := by decide +kernel
theorem dX4_key_103 : decode cX4_key 103 = .ok (.getfield 49, 3) := by decide +kernel
theorem dX4_key_106 : decode cX4_key 106 = .ok (.iconst (-1), 1) := by decide +kernel
theorem dX4_key_107 : decode cX4_key 107 = .ok (.iastore, 1) := by decide +kernel
theorem dX4_key_108 : decode cX4_key 108 = .ok (.aload_n 0, 1) := by decide +kernel
theorem dX4_key_109 : decode cX4_key 109 = .ok (.getfield 20, 3) := by decide +kernel
theorem dX4_key_112 : decode cX4_key 112 = .ok (.aload_n 0, 1) := by decide +kernel
theorem dX4_key_113 : decode cX4_key 113 = .ok (.getfield 49, 3) := by decide +kernel
theorem dX4_key_116 : decode cX4_key 116 = .ok (.aload_n 0, 1) := by decide +kernel
theorem dX4_key_117 : decode cX4_key 117 = .ok (.getfield 49, 3) := by decide +kernel
theorem dX4_key_120 : decode cX4_key 120 = .ok (.iconst 3, 1) := by decide +kernel
theorem dX4_key_121 : decode cX4_key 121 = .ok (.if_icmp .ge 7, 3) := by decide +kernel
theorem dX4_key_124 : decode cX4_key 124 = .ok (.iconst 1, 1) := by decide +kernel
theorem dX4_key_125 : decode cX4_key 125 = .ok (.goto 4, 3) := by decide +kernel
theorem dX4_key_128 : decode cX4_key 128 = .ok (.iconst 0, 1) := by decide +kernel
theorem dX4_key_129 : decode cX4_key 129 = .ok (.bastore, 1) := by decide +kernel
theorem dX4_key_130 : decode cX4_key 130 = .ok (.aload_n 0, 1) := by decide +kernel
theorem dX4_key_131 : decode cX4_key 131 = .ok (.getfield 49, 3) := by decide +kernel
theorem dX4_key_134 : decode cX4_key 134 = .ok (.ireturn, 1) := by decide +kernel
theorem dX4_some_0 : decode cX4_some 0 = .ok (.iconst 0, 1) := by decide +kernel
theorem dX4_some_1 : decode cX4_some 1 = .ok (.istore_n 2, 1) := by decide +kernel
theorem dX4_some_2 : decode cX4_some 2 = .ok (.iconst 0, 1) := by decide +kernel
theorem dX4_some_3 : decode cX4_some 3 = .ok (.istore_n 3, 1) := by decide +kernel
theorem dX4_some_4 : decode cX4_some 4 = .ok (.iload_n 3, 1) := by decide +kernel
theorem dX4_some_5 : decode cX4_some 5 = .ok (.iconst 5, 1) := by decide +kernel
theorem dX4_some_6 : decode cX4_some 6 = .ok (.if_icmp .ge 29, 3) := by decide +kernel
theorem dX4_some_9 : decode cX4_some 9 = .ok (.iload_n 2, 1) := by decide +kernel
theorem dX4_some_10 : decode cX4_some 10 = .ok (.ifCond .ne 13, 3) := by decide +kernel
theorem dX4_some_13 : decode cX4_some 13 = .ok (.aload_n 0, 1) := by decide +kernel
theorem dX4_some_14 : decode cX4_some 14 = .ok (.getfield 33, 3) := by decide +kernel
theorem dX4_some_17 : decode cX4_some 17 = .ok (.iload_n 3, 1) := by decide +kernel
theorem dX4_some_18 : decode cX4_some 18 = .ok (.iaload, 1) := by decide +kernel
theorem dX4_some_19 : decode cX4_some 19 = .ok (.iload_n 1, 1) := by decide +kernel
theorem dX4_some_20 : decode cX4_some 20 = .ok (.if_icmp .ne 7, 3) := by decide +kernel
theorem dX4_some_23 : decode cX4_some 23 = .ok (.iconst 1, 1) := by decide +kernel
theorem dX4_some_24 : decode cX4_some 24 = .ok (.goto 4, 3) := by decide +kernel
theorem dX4_some_27 : decode cX4_some 27 = .ok (.iconst 0, 1) := by decide +kernel
theorem dX4_some_28 : decode cX4_some 28 = .ok (.istore_n 2, 1) := by decide +kernel
theorem dX4_some_29 : decode cX4_some 29 = .ok (.iinc 3 1, 3) := by decide +kernel
theorem dX4_some_32 : decode cX4_some 32 = .ok (.goto (-28), 3) := by decide +kernel
theorem dX4_some_35 : decode cX4_some 35 = .ok (.iload_n 2, 1) := by decide +kernel
theorem dX4_some_36 : decode cX4_some 36 = .ok (.ireturn, 1) := by decide +kernel
set_option maxRecDepth 20000 in
theorem ggX4_turn_X4_some : GoodIn wsX4_turn wsX4_some := goodIn_r _ [8, 1, 9, 10, 11, 12, 13, 14, 15, 16, 17, 18, 19, 20, 21, 22, 23, 24, 25, 26, 27, 28] (by decide +kernel) (by decide +kernel)
set_option maxRecDepth 20000 in
theorem gX4_turn_X4_some : GoodIn wsX4_turn (wsV RX4 60 RX4 yX4_some wsX4_some) := goodIn_app (goodIn_of _ (by decide +kernel)) ggX4_turn_X4_some
theorem dX4_turn_0 : decode cX4_turn 0 = .ok (.aload_n 0, 1) := by decide +kernel
theorem dX4_turn_1 : decode cX4_turn 1 = .ok (.iconst 0, 1) := by decide +kernel
theorem dX4_turn_2 : decode cX4_turn 2 = .ok (.invokevirtual 60, 3) := by decide +kernel
theorem dX4_turn_5 : decode cX4_turn 5 = .ok (.istore 5, 2) := by decide +kernel
theorem dX4_turn_7 : decode cX4_turn 7 = .ok (.iconst 0, 1) := by decide +kernel
theorem dX4_turn_8 : decode cX4_turn 8 = .ok (.istore 6, 2) := by decide +kernel
theorem dX4_turn_10 : decode cX4_turn 10 = .ok (.iload_n 1, 1) := by decide +kernel
theorem dX4_turn_11 : decode cX4_turn 11 = .ok (.istore 7, 2) := by decide +kernel
theorem dX4_turn_13 : decode cX4_turn 13 = .ok (.iload 7, 2) := by decide +kernel
theorem dX4_turn_15 : decode cX4_turn 15 = .ok (.iload_n 2, 1) := by decide +kernel
theorem dX4_turn_16 : decode cX4_turn 16 = .ok (.if_icmp .ge 49, 3) := by decide +kernel
theorem dX4_turn_19 : decode cX4_turn 19 = .ok (.aload_n 0, 1) := by decide +kernel
theorem dX4_turn_20 : decode cX4_turn 20 = .ok (.getfield 33, 3) := by decide +kernel
theorem dX4_turn_23 : decode cX4_turn 23 = .ok (.iload 7, 2) := by decide +kernel
theorem dX4_turn_25 : decode cX4_turn 25 = .ok (.iaload, 1) := by decide +kernel
theorem dX4_turn_26 : decode cX4_turn 26 = .ok (.iload 4, 2) := by decide +kernel
theorem dX4_turn_28 : decode cX4_turn 28 = .ok (.if_icmp .eq 31, 3) := by decide +kernel
theorem dX4_turn_31 : decode cX4_turn 31 = .ok (.iload_n 3, 1) := by decide +kernel
theorem dX4_turn_32 : decode cX4_turn 32 = .ok (.iconst 3, 1) := by decide +kernel
theorem dX4_turn_33 : decode cX4_turn 33 = .ok (.if_icmp .eq 14, 3) := by decide +kernel
theorem dX4_turn_36 : decode cX4_turn 36 = .ok (.aload_n 0, 1) := by decide +kernel
theorem dX4_turn_37 : decode cX4_turn 37 = .ok (.getfield 33, 3) := by decide +kernel
theorem dX4_turn_40 : decode cX4_turn 40 = .ok (.iload 7, 2) := by decide +kernel
theorem dX4_turn_42 : decode cX4_turn 42 = .ok (.iaload, 1) := by decide +kernel
theorem dX4_turn_43 : decode cX4_turn 43 = .ok (.iload_n 3, 1) := by decide +kernel
theorem dX4_turn_44 : decode cX4_turn 44 = .ok (.if_icmp .ne 15, 3) := by decide +kernel
theorem dX4_turn_47 : decode cX4_turn 47 = .ok (.aload_n 0, 1) := by decide +kernel
theorem dX4_turn_48 : decode cX4_turn 48 = .ok (.getfield 33, 3) := by decide +kernel
theorem dX4_turn_51 : decode cX4_turn 51 = .ok (.iload 7, 2) := by decide +kernel
theorem dX4_turn_53 : decode cX4_turn 53 = .ok (.iload 4, 2) := by decide +kernel
theorem dX4_turn_55 : decode cX4_turn 55 = .ok (.iastore, 1) := by decide +kernel
theorem dX4_turn_56 : decode cX4_turn 56 = .ok (.iinc 6 1, 3) := by decide +kernel
theorem dX4_turn_59 : decode cX4_turn 59 = .ok (.iinc 7 1, 3) := by decide +kernel
theorem dX4_turn_62 : decode cX4_turn 62 = .ok (.goto (-49), 3) := by decide +kernel
theorem dX4_turn_65 : decode cX4_turn 65 = .ok (.aload_n 0, 1) := by decide +kernel
theorem dX4_turn_66 : decode cX4_turn 66 = .ok (.iload 5, 2) := by decide +kernel
theorem dX4_turn_68 : decode cX4_turn 68 = .ok (.ifCond .eq 18, 3) := by decide +kernel
theorem dX4_turn_71 : decode cX4_turn 71 = .ok (.aload_n 0, 1) := by decide +kernel
theorem dX4_turn_72 : decode cX4_turn 72 = .ok (.iconst 0, 1) := by decide +kernel
theorem dX4_turn_73 : decode cX4_turn 73 = .ok (.invokevirtual 60, 3) := by decide +kernel
theorem dX4_turn_76 : decode cX4_turn 76 = .ok (.ifCond .ne 10, 3) := by decide +kernel
theorem dX4_turn_79 : decode cX4_turn 79 = .ok (.aload_n 0, 1) := by decide +kernel
theorem dX4_turn_80 : decode cX4_turn 80 = .ok (.getfield 64, 3) := by decide +kernel
theorem dX4_turn_83 : decode cX4_turn 83 = .ok (.goto 7, 3) := by decide +kernel
theorem dX4_turn_86 : decode cX4_turn 86 = .ok (.aload_n 0, 1) := by decide +kernel
theorem dX4_turn_87 : decode cX4_turn 87 = .ok (.getfield 68, 3) := by decide +kernel
theorem dX4_turn_90 : decode cX4_turn 90 = .ok (.putfield 68, 3) := by decide +kernel
theorem dX4_turn_93 : decode cX4_turn 93 = .ok (.iload 6, 2) := by decide +kernel
theorem dX4_turn_95 : decode cX4_turn 95 = .ok (.ireturn, 1) := by decide +kernel
set_option maxRecDepth 20000 in
theorem ggX4_command_X4_turn : GoodIn wsX4_command wsX4_turn := goodIn_r _ [6, 7, 8, 9, 10, 11, 12, 5, 13, 14, 15, 16, 17, 18, 19, 20, 21, 22, 23, 24, 25, 26, 27, 28, 29, 30, 31, 32, 33] (by decide +kernel) (by decide +kernel)
set_option maxRecDepth 20000 in
theorem gX4_command_X4_turn : GoodIn wsX4_command (wsV RX4 71 RX4 yX4_turn wsX4_turn) := goodIn_app (goodIn_of _ (by decide +kernel)) ggX4_command_X4_turn
set_option maxRecDepth 20000 in
theorem ggX4_command_X4_some : GoodIn wsX4_command wsX4_some := goodIn_r _ [13, 7, 14, 15, 16, 17, 18, 19, 20, 21, 22, 23, 24, 25, 26, 27, 28, 29, 30, 31, 32, 33] (by decide +kernel) (by decide +kernel)
set_option maxRecDepth 20000 in
theorem gX4_command_X4_some : GoodIn wsX4_command (wsV RX4 60 RX4 yX4_some wsX4_some) := goodIn_app (goodIn_of _ (by decide +kernel)) ggX4_command_X4_some
theorem dX4_command_0 : decode cX4_command 0 = .ok (.iconst 0, 1) := by decide +kernel
theorem dX4_command_1 : decode cX4_command 1 = .ok (.istore_n 2, 1) := by decide +kernel
theorem dX4_command_2 : decode cX4_command 2 = .ok (.iload_n 1, 1) := by decide +kernel
theorem dX4_command_3 : decode cX4_command 3 = .ok (.ifCond .ne 12, 3) := by decide +kernel
theorem dX4_command_6 : decode cX4_command 6 = .ok (.aload_n 0, 1) := by decide +kernel
theorem dX4_command_7 : decode cX4_command 7 = .ok (.iconst 0, 1) := by decide +kernel
theorem dX4_command_8 : decode cX4_command 8 = .ok (.iconst 5, 1) := by decide +kernel
theorem dX4_command_9 : decode cX4_command 9 = .ok (.iconst 3, 1) := by decide +kernel
theorem dX4_command_10 : decode cX4_command 10 = .ok (.iconst 0, 1) := by decide +kernel
theorem dX4_command_11 : decode cX4_command 11 = .ok (.invokevirtual 71, 3) := by decide +kernel
theorem dX4_command_14 : decode cX4_command 14 = .ok (.istore_n 2, 1) := by decide +kernel
theorem dX4_command_15 : decode cX4_command 15 = .ok (.iload_n 1, 1) := by decide +kernel
theorem dX4_command_16 : decode cX4_command 16 = .ok (.iconst 1, 1) := by decide +kernel
theorem dX4_command_17 : decode cX4_command 17 = .ok (.if_icmp .ne 19, 3) := by decide +kernel
theorem dX4_command_20 : decode cX4_command 20 = .ok (.aload_n 0, 1) := by decide +kernel
theorem dX4_command_21 : decode cX4_command 21 = .ok (.getfield 75, 3) := by decide +kernel
theorem dX4_command_24 : decode cX4_command 24 = .ok (.ifCond .ne 12, 3) := by decide +kernel
