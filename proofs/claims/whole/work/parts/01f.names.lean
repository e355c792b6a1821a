theorem dX4_tries_5 : decode cX4_tries 5 = .ok (.iaload, 1) := by decide +kernel
theorem dX4_tries_6 : decode cX4_tries 6 = .ok (.istore_n 3, 1) := by decide +kernel
theorem dX4_tries_7 : decode cX4_tries 7 = .ok (.aload_n 0, 1) := by decide +kernel
theorem dX4_tries_8 : decode cX4_tries 8 = .ok (.getfield 16, 3) := by decide +kernel
theorem dX4_tries_11 : decode cX4_tries 11 = .ok (.iload_n 1, 1) := by decide +kernel
theorem dX4_tries_12 : decode cX4_tries 12 = .ok (.iaload, 1) := by decide +kernel
theorem dX4_tries_13 : decode cX4_tries 13 = .ok (.i2l, 1) := by decide +kernel
theorem dX4_tries_14 : decode cX4_tries 14 = .ok (.lstore 4, 2) := by decide +kernel
theorem dX4_tries_16 : decode cX4_tries 16 = .ok (.aload_n 0, 1) := by decide +kernel
theorem dX4_tries_17 : decode cX4_tries 17 = .ok (.getfield 28, 3) := by decide +kernel
theorem dX4_tries_20 : decode cX4_tries 20 = .ok (.iload_n 3, 1) := by decide +kernel
theorem dX4_tries_21 : decode cX4_tries 21 = .ok (.laload, 1) := by decide +kernel
theorem dX4_tries_22 : decode cX4_tries 22 = .ok (.lstore 6, 2) := by decide +kernel
theorem dX4_tries_24 : decode cX4_tries 24 = .ok (.iconst 1, 1) := by decide +kernel
theorem dX4_tries_25 : decode cX4_tries 25 = .ok (.istore 8, 2) := by decide +kernel
theorem dX4_tries_27 : decode cX4_tries 27 = .ok (.aload_n 0, 1) := by decide +kernel
theorem dX4_tries_28 : decode cX4_tries 28 = .ok (.getfield 7, 3) := by decide +kernel
theorem dX4_tries_31 : decode cX4_tries 31 = .ok (.iload_n 1, 1) := by decide +kernel
theorem dX4_tries_32 : decode cX4_tries 32 = .ok (.iaload, 1) := by decide +kernel
theorem dX4_tries_33 : decode cX4_tries 33 = .ok (.ifCond .ne 29, 3) := by decide +kernel
theorem dX4_tries_36 : decode cX4_tries 36 = .ok (.aload_n 0, 1) := by decide +kernel
theorem dX4_tries_37 : decode cX4_tries 37 = .ok (.getfield 28, 3) := by decide +kernel
theorem dX4_tries_40 : decode cX4_tries 40 = .ok (.iload_n 3, 1) := by decide +kernel
theorem dX4_tries_41 : decode cX4_tries 41 = .ok (.iload_n 2, 1) := by decide +kernel
theorem dX4_tries_42 : decode cX4_tries 42 = .ok (.ifCond .eq 11, 3) := by decide +kernel
theorem dX4_tries_45 : decode cX4_tries 45 = .ok (.lload 6, 2) := by decide +kernel
theorem dX4_tries_47 : decode cX4_tries 47 = .ok (.lload 4, 2) := by decide +kernel
theorem dX4_tries_49 : decode cX4_tries 49 = .ok (.lsub, 1) := by decide +kernel
theorem dX4_tries_50 : decode cX4_tries 50 = .ok (.goto 8, 3) := by decide +kernel
theorem dX4_tries_53 : decode cX4_tries 53 = .ok (.lload 6, 2) := by decide +kernel
theorem dX4_tries_55 : decode cX4_tries 55 = .ok (.lload 4, 2) := by decide +kernel
theorem dX4_tries_57 : decode cX4_tries 57 = .ok (.ladd, 1) := by decide +kernel
theorem dX4_tries_58 : decode cX4_tries 58 = .ok (.lastore, 1) := by decide +kernel
theorem dX4_tries_59 : decode cX4_tries 59 = .ok (.goto 92, 3) := by decide +kernel
theorem dX4_tries_62 : decode cX4_tries 62 = .ok (.aload_n 0, 1) := by decide +kernel
theorem dX4_tries_63 : decode cX4_tries 63 = .ok (.getfield 7, 3) := by decide +kernel
theorem dX4_tries_66 : decode cX4_tries 66 = .ok (.iload_n 1, 1) := by decide +kernel
theorem dX4_tries_67 : decode cX4_tries 67 = .ok (.iaload, 1) := by decide +kernel
theorem dX4_tries_68 : decode cX4_tries 68 = .ok (.iconst 2, 1) := by decide +kernel
theorem dX4_tries_69 : decode cX4_tries 69 = .ok (.if_icmp .ne 36, 3) := by decide +kernel
theorem dX4_tries_72 : decode cX4_tries 72 = .ok (.aload_n 0, 1) := by decide +kernel
theorem dX4_tries_73 : decode cX4_tries 73 = .ok (.getfield 28, 3) := by decide +kernel
theorem dX4_tries_76 : decode cX4_tries 76 = .ok (.iload_n 3, 1) := by decide +kernel
theorem dX4_tries_77 : decode cX4_tries 77 = .ok (.aload_n 0, 1) := by decide +kernel
theorem dX4_tries_78 : decode cX4_tries 78 = .ok (.getfield 28, 3) := by decide +kernel
theorem dX4_tries_81 : decode cX4_tries 81 = .ok (.aload_n 0, 1) := by decide +kernel
theorem dX4_tries_82 : decode cX4_tries 82 = .ok (.getfield 16, 3) := by decide +kernel
theorem dX4_tries_85 : decode cX4_tries 85 = .ok (.iload_n 1, 1) := by decide +kernel
theorem dX4_tries_86 : decode cX4_tries 86 = .ok (.iaload, 1) := by decide +kernel
theorem dX4_tries_87 : decode cX4_tries 87 = .ok (.laload, 1) := by decide +kernel
theorem dX4_tries_88 : decode cX4_tries 88 = .ok (.lastore, 1) := by decide +kernel
theorem dX4_tries_89 : decode cX4_tries 89 = .ok (.aload_n 0, 1) := by decide +kernel
theorem dX4_tries_90 : decode cX4_tries 90 = .ok (.getfield 28, 3) := by decide +kernel
theorem dX4_tries_93 : decode cX4_tries 93 = .ok (.aload_n 0, 1) := by decide +kernel
theorem dX4_tries_94 : decode cX4_tries 94 = .ok (.getfield 16, 3) := by decide +kernel
theorem dX4_tries_97 : decode cX4_tries 97 = .ok (.iload_n 1, 1) := by decide +kernel
theorem dX4_tries_98 : decode cX4_tries 98 = .ok (.iaload, 1) := by decide +kernel
theorem dX4_tries_99 : decode cX4_tries 99 = .ok (.lload 6, 2) := by decide +kernel
theorem dX4_tries_101 : decode cX4_tries 101 = .ok (.lastore, 1) := by decide +kernel
theorem dX4_tries_102 : decode cX4_tries 102 = .ok (.goto 49, 3) := by decide +kernel
theorem dX4_tries_105 : decode cX4_tries 105 = .ok (.iload_n 2, 1) := by decide +kernel
theorem dX4_tries_106 : decode cX4_tries 106 = .ok (.ifCond .eq 34, 3) := by decide +kernel
theorem dX4_tries_109 : decode cX4_tries 109 = .ok (.lload 6, 2) := by decide +kernel
theorem dX4_tries_111 : decode cX4_tries 111 = .ok (.lload 4, 2) := by decide +kernel
theorem dX4_tries_113 : decode cX4_tries 113 = .ok (.lrem, 1) := by decide +kernel
theorem dX4_tries_114 : decode cX4_tries 114 = .ok (.lconst 0, 1) := by decide +kernel
theorem dX4_tries_115 : decode cX4_tries 115 = .ok (.lcmp, 1) := by decide +kernel
theorem dX4_tries_116 : decode cX4_tries 116 = .ok (.ifCond .ne 7, 3) := by decide +kernel
theorem dX4_tries_119 : decode cX4_tries 119 = .ok (.iconst 1, 1) := by decide +kernel
theorem dX4_tries_120 : decode cX4_tries 120 = .ok (.goto 4, 3) := by decide +kernel
theorem dX4_tries_123 : decode cX4_tries 123 = .ok (.iconst 0, 1) := by decide +kernel
theorem dX4_tries_124 : decode cX4_tries 124 = .ok (.istore 8, 2) := by decide +kernel
theorem dX4_tries_126 : decode cX4_tries 126 = .ok (.aload_n 0, 1) := by decide +kernel
theorem dX4_tries_127 : decode cX4_tries 127 = .ok (.getfield 28, 3) := by decide +kernel
theorem dX4_tries_130 : decode cX4_tries 130 = .ok (.iload_n 3, 1) := by decide +kernel
theorem dX4_tries_131 : decode cX4_tries 131 = .ok (.lload 6, 2) := by decide +kernel
theorem dX4_tries_133 : decode cX4_tries 133 = .ok (.lload 4, 2) := by decide +kernel
theorem dX4_tries_135 : decode cX4_tries 135 = .ok (.ldiv, 1) := by decide +kernel
theorem dX4_tries_136 : decode cX4_tries 136 = .ok (.lastore, 1) := by decide +kernel
theorem dX4_tries_137 : decode cX4_tries 137 = .ok (.goto 14, 3) := by decide +kernel
theorem dX4_tries_140 : decode cX4_tries 140 = .ok (.aload_n 0, 1) := by decide +kernel
theorem dX4_tries_141 : decode cX4_tries 141 = .ok (.getfield 28, 3) := by decide +kernel
theorem dX4_tries_144 : decode cX4_tries 144 = .ok (.iload_n 3, 1) := by decide +kernel
theorem dX4_tries_145 : decode cX4_tries 145 = .ok (.lload 6, 2) := by decide +kernel
theorem dX4_tries_147 : decode cX4_tries 147 = .ok (.lload 4, 2) := by decide +kernel
theorem dX4_tries_149 : decode cX4_tries 149 = .ok (.lmul, 1) := by decide +kernel
theorem dX4_tries_150 : decode cX4_tries 150 = .ok (.lastore, 1) := by decide +kernel
theorem dX4_tries_151 : decode cX4_tries 151 = .ok (.iload 8, 2) := by decide +kernel
theorem dX4_tries_153 : decode cX4_tries 153 = .ok (.ifCond .eq 19, 3) := by decide +kernel
theorem dX4_tries_156 : decode cX4_tries 156 = .ok (.aload_n 0, 1) := by decide +kernel
theorem dX4_tries_157 : decode cX4_tries 157 = .ok (.getfield 28, 3) := by decide +kernel
theorem dX4_tries_160 : decode cX4_tries 160 = .ok (.iload_n 3, 1) := by decide +kernel
theorem dX4_tries_161 : decode cX4_tries 161 = .ok (.laload, 1) := by decide +kernel
theorem dX4_tries_162 : decode cX4_tries 162 = .ok (.invokestatic 89, 3) := by decide +kernel
theorem dX4_tries_165 : decode cX4_tries 165 = .ok (.ifCond .eq 7, 3) := by decide +kernel
theorem dX4_tries_168 : decode cX4_tries 168 = .ok (.iconst 1, 1) := by decide +kernel
theorem dX4_tries_169 : decode cX4_tries 169 = .ok (.goto 4, 3) := by decide +kernel
theorem dX4_tries_172 : decode cX4_tries 172 = .ok (.iconst 0, 1) := by decide +kernel
theorem dX4_tries_173 : decode cX4_tries 173 = .ok (.ireturn, 1) := by decide +kernel
set_option maxRecDepth 20000 in
theorem ggX4_valueAt_X4_in : GoodIn wsX4_valueAt wsX4_in := goodIn_r _ [7] (by decide +kernel) (by decide +kernel)
set_option maxRecDepth 20000 in
theorem gX4_valueAt_X4_in : GoodIn wsX4_valueAt (va_wsS RX4 47 yX4_in wsX4_in) := goodIn_app (goodIn_of _ (by decide +kernel)) ggX4_valueAt_X4_in
set_option maxRecDepth 20000 in
theorem ggX4_valueAt_X4_noRow : GoodIn wsX4_valueAt wsX4_noRow := goodIn_r _ [11, 2, 12, 13, 6, 14, 4, 5, 7, 15, 16, 17, 18, 19, 37, 38, 39, 40, 41, 42, 43, 44, 45, 46, 47, 48, 49, 50, 51, 52] (by decide +kernel) (by decide +kernel)
set_option maxRecDepth 20000 in
theorem gX4_valueAt_X4_noRow : GoodIn wsX4_valueAt (wsV RX4 96 RX4 yX4_noRow wsX4_noRow) := goodIn_app (goodIn_of _ (by decide +kernel)) ggX4_valueAt_X4_noRow
set_option maxRecDepth 20000 in
theorem ggX4_valueAt_X4_takeSpare : GoodIn wsX4_valueAt wsX4_takeSpare := goodIn_r _ [23, 3, 24, 37, 38, 39, 40, 41, 42, 43, 44, 45, 46, 47, 48, 49, 50, 51, 52] (by decide +kernel) (by decide +kernel)
set_option maxRecDepth 20000 in
theorem gX4_valueAt_X4_takeSpare : GoodIn wsX4_valueAt (wsV RX4 100 RX4 yX4_takeSpare wsX4_takeSpare) := goodIn_app (goodIn_of _ (by decide +kernel)) ggX4_valueAt_X4_takeSpare
set_option maxRecDepth 20000 in
theorem ggX4_valueAt_X4_tries : GoodIn wsX4_valueAt wsX4_tries := goodIn_r _ [28, 29, 30, 3, 31, 32, 33, 6, 34, 35, 36, 37, 38, 39, 40, 41, 42, 43, 44, 45, 46, 47, 48, 49, 50, 51, 52] (by decide +kernel) (by decide +kernel)
set_option maxRecDepth 20000 in
theorem gX4_valueAt_X4_tries : GoodIn wsX4_valueAt (wsV RX4 104 RX4 yX4_tries wsX4_tries) := goodIn_app (goodIn_of _ (by decide +kernel)) ggX4_valueAt_X4_tries
set_option maxRecDepth 20000 in
theorem ggX4_valueAt_X4_refused : GoodIn wsX4_valueAt wsX4_refused := goodIn_r _ [18, 19, 37, 38, 39, 40, 41, 42, 43, 44, 45, 46, 47, 48, 49, 50, 51, 52] (by decide +kernel) (by decide +kernel)
set_option maxRecDepth 20000 in
theorem gX4_valueAt_X4_refused : GoodIn wsX4_valueAt (wsV RX4 58 RX4 yX4_refused wsX4_refused) := goodIn_app (goodIn_of _ (by decide +kernel)) ggX4_valueAt_X4_refused
theorem dX4_valueAt_0 : decode cX4_valueAt 0 = .ok (.aload_n 0, 1) := by decide +kernel
theorem dX4_valueAt_1 : decode cX4_valueAt 1 = .ok (.iload_n 2, 1) := by decide +kernel
theorem dX4_valueAt_2 : decode cX4_valueAt 2 = .ok (.iconst 0, 1) := by decide +kernel
theorem dX4_valueAt_3 : decode cX4_valueAt 3 = .ok (.iconst 2, 1) := by decide +kernel
theorem dX4_valueAt_4 : decode cX4_valueAt 4 = .ok (.invokestatic 47, 3) := by decide +kernel
theorem dX4_valueAt_7 : decode cX4_valueAt 7 = .ok (.ifCond .eq 19, 3) := by decide +kernel
theorem dX4_valueAt_10 : decode cX4_valueAt 10 = .ok (.iload_n 3, 1) := by decide +kernel
theorem dX4_valueAt_11 : decode cX4_valueAt 11 = .ok (.iconst 0, 1) := by decide +kernel
theorem dX4_valueAt_12 : decode cX4_valueAt 12 = .ok (.aload_n 0, 1) := by decide +kernel
theorem dX4_valueAt_13 : decode cX4_valueAt 13 = .ok (.getfield 55, 3) := by decide +kernel
theorem dX4_valueAt_16 : decode cX4_valueAt 16 = .ok (.invokestatic 47, 3) := by decide +kernel
theorem dX4_valueAt_19 : decode cX4_valueAt 19 = .ok (.ifCond .eq 7, 3) := by decide +kernel
theorem dX4_valueAt_22 : decode cX4_valueAt 22 = .ok (.iconst 1, 1) := by decide +kernel
theorem dX4_valueAt_23 : decode cX4_valueAt 23 = .ok (.goto 4, 3) := by decide +kernel
theorem dX4_valueAt_26 : decode cX4_valueAt 26 = .ok (.iconst 0, 1) := by decide +kernel
theorem dX4_valueAt_27 : decode cX4_valueAt 27 = .ok (.iload_n 1, 1) := by decide +kernel
theorem dX4_valueAt_28 : decode cX4_valueAt 28 = .ok (.invokevirtual 96, 3) := by decide +kernel
theorem dX4_valueAt_31 : decode cX4_valueAt 31 = .ok (.ifCond .eq 5, 3) := by decide +kernel
theorem dX4_valueAt_34 : decode cX4_valueAt 34 = .ok (.iconst 0, 1) := by decide +kernel
theorem dX4_valueAt_35 : decode cX4_valueAt 35 = .ok (.ireturn, 1) := by decide +kernel
theorem dX4_valueAt_36 : decode cX4_valueAt 36 = .ok (.aload_n 0, 1) := by decide +kernel
theorem dX4_valueAt_37 : decode cX4_valueAt 37 = .ok (.iload_n 1, 1) := by decide +kernel
theorem dX4_valueAt_38 : decode cX4_valueAt 38 = .ok (.invokevirtual 100, 3) := by decide +kernel
theorem dX4_valueAt_41 : decode cX4_valueAt 41 = .ok (.iconst 1, 1) := by decide +kernel
theorem dX4_valueAt_42 : decode cX4_valueAt 42 = .ok (.istore 4, 2) := by decide +kernel
theorem dX4_valueAt_44 : decode cX4_valueAt 44 = .ok (.aload_n 0, 1) := by decide +kernel
theorem dX4_valueAt_45 : decode cX4_valueAt 45 = .ok (.getfield 22, 3) := by decide +kernel
theorem dX4_valueAt_48 : decode cX4_valueAt 48 = .ok (.iload_n 1, 1) := by decide +kernel
theorem dX4_valueAt_49 : decode cX4_valueAt 49 = .ok (.iaload, 1) := by decide +kernel
theorem dX4_valueAt_50 : decode cX4_valueAt 50 = .ok (.iconst 1, 1) := by decide +kernel
theorem dX4_valueAt_51 : decode cX4_valueAt 51 = .ok (.iadd, 1) := by decide +kernel
theorem dX4_valueAt_52 : decode cX4_valueAt 52 = .ok (.istore 5, 2) := by decide +kernel
theorem dX4_valueAt_54 : decode cX4_valueAt 54 = .ok (.iload 5, 2) := by decide +kernel
theorem dX4_valueAt_56 : decode cX4_valueAt 56 = .ok (.iload_n 3, 1) := by decide +kernel
theorem dX4_valueAt_57 : decode cX4_valueAt 57 = .ok (.if_icmp .gt 31, 3) := by decide +kernel
theorem dX4_valueAt_60 : decode cX4_valueAt 60 = .ok (.iload 4, 2) := by decide +kernel
theorem dX4_valueAt_62 : decode cX4_valueAt 62 = .ok (.ifCond .eq 17, 3) := by decide +kernel
theorem dX4_valueAt_65 : decode cX4_valueAt 65 = .ok (.aload_n 0, 1) := by decide +kernel
theorem dX4_valueAt_66 : decode cX4_valueAt 66 = .ok (.iload 5, 2) := by decide +kernel
theorem dX4_valueAt_68 : decode cX4_valueAt 68 = .ok (.iconst 0, 1) := by decide +kernel
theorem dX4_valueAt_69 : decode cX4_valueAt 69 = .ok (.invokevirtual 104, 3) := by decide +kernel
theorem dX4_valueAt_72 : decode cX4_valueAt 72 = .ok (.ifCond .eq 7, 3) := by decide +kernel
theorem dX4_valueAt_75 : decode cX4_valueAt 75 = .ok (.iconst 1, 1) := by decide +kernel
theorem dX4_valueAt_76 : decode cX4_valueAt 76 = .ok (.goto 4, 3) := by decide +kernel
theorem dX4_valueAt_79 : decode cX4_valueAt 79 = .ok (.iconst 0, 1) := by decide +kernel
theorem dX4_valueAt_80 : decode cX4_valueAt 80 = .ok (.istore 4, 2) := by decide +kernel
theorem dX4_valueAt_82 : decode cX4_valueAt 82 = .ok (.iinc 5 1, 3) := by decide +kernel
theorem dX4_valueAt_85 : decode cX4_valueAt 85 = .ok (.goto (-31), 3) := by decide +kernel
theorem dX4_valueAt_88 : decode cX4_valueAt 88 = .ok (.aload_n 0, 1) := by decide +kernel
theorem dX4_valueAt_89 : decode cX4_valueAt 89 = .ok (.getfield 22, 3) := by decide +kernel
theorem dX4_valueAt_92 : decode cX4_valueAt 92 = .ok (.iload_n 1, 1) := by decide +kernel
theorem dX4_valueAt_93 : decode cX4_valueAt 93 = .ok (.iaload, 1) := by decide +kernel
theorem dX4_valueAt_94 : decode cX4_valueAt 94 = .ok (.istore 5, 2) := by decide +kernel
theorem dX4_valueAt_96 : decode cX4_valueAt 96 = .ok (.iload 5, 2) := by decide +kernel
theorem dX4_valueAt_98 : decode cX4_valueAt 98 = .ok (.iload_n 3, 1) := by decide +kernel
theorem dX4_valueAt_99 : decode cX4_valueAt 99 = .ok (.if_icmp .le 31, 3) := by decide +kernel
theorem dX4_valueAt_102 : decode cX4_valueAt 102 = .ok (.iload 4, 2) := by decide +kernel
theorem dX4_valueAt_104 : decode cX4_valueAt 104 = .ok (.ifCond .eq 17, 3) := by decide +kernel
theorem dX4_valueAt_107 : decode cX4_valueAt 107 = .ok (.aload_n 0, 1) := by decide +kernel
theorem dX4_valueAt_108 : decode cX4_valueAt 108 = .ok (.iload 5, 2) := by decide +kernel
theorem dX4_valueAt_110 : decode cX4_valueAt 110 = .ok (.iconst 1, 1) := by decide +kernel
theorem dX4_valueAt_111 : decode cX4_valueAt 111 = .ok (.invokevirtual 104, 3) := by decide +kernel
theorem dX4_valueAt_114 : decode cX4_valueAt 114 = .ok (.ifCond .eq 7, 3) := by decide +kernel
theorem dX4_valueAt_117 : decode cX4_valueAt 117 = .ok (.iconst 1, 1) := by decide +kernel
theorem dX4_valueAt_118 : decode cX4_valueAt 118 = .ok (.goto 4, 3) := by decide +kernel
theorem dX4_valueAt_121 : decode cX4_valueAt 121 = .ok (.iconst 0, 1) := by decide +kernel
theorem dX4_valueAt_122 : decode cX4_valueAt 122 = .ok (.istore 4, 2) := by decide +kernel
theorem dX4_valueAt_124 : decode cX4_valueAt 124 = .ok (.iinc 5 (-1), 3) := by decide +kernel
theorem dX4_valueAt_127 : decode cX4_valueAt 127 = .ok (.goto (-31), 3) := by decide +kernel
theorem dX4_valueAt_130 : decode cX4_valueAt 130 = .ok (.aload_n 0, 1) := by decide +kernel
theorem dX4_valueAt_131 : decode cX4_valueAt 131 = .ok (.iload 4, 2) := by decide +kernel
theorem dX4_valueAt_133 : decode cX4_valueAt 133 = .ok (.ifCond .eq 7, 3) := by decide +kernel
theorem dX4_valueAt_136 : decode cX4_valueAt 136 = .ok (.iconst 0, 1) := by decide +kernel
theorem dX4_valueAt_137 : decode cX4_valueAt 137 = .ok (.goto 4, 3) := by decide +kernel
theorem dX4_valueAt_140 : decode cX4_valueAt 140 = .ok (.iconst 3, 1) := by decide +kernel
theorem dX4_valueAt_141 : decode cX4_valueAt 141 = .ok (.invokevirtual 58, 3) := by decide +kernel
theorem dX4_valueAt_144 : decode cX4_valueAt 144 = .ok (.ifCond .eq 7, 3) := by decide +kernel
theorem dX4_valueAt_147 : decode cX4_valueAt 147 = .ok (.iconst 0, 1) := by decide +kernel
theorem dX4_valueAt_148 : decode cX4_valueAt 148 = .ok (.goto 10, 3) := by decide +kernel
theorem dX4_valueAt_151 : decode cX4_valueAt 151 = .ok (.aload_n 0, 1) := by decide +kernel
theorem dX4_valueAt_152 : decode cX4_valueAt 152 = .ok (.getfield 28, 3) := by decide +kernel
theorem dX4_valueAt_155 : decode cX4_valueAt 155 = .ok (.iload_n 2, 1) := by decide +kernel
theorem dX4_valueAt_156 : decode cX4_valueAt 156 = .ok (.laload, 1) := by decide +kernel
theorem dX4_valueAt_157 : decode cX4_valueAt 157 = .ok (.l2i, 1) := by decide +kernel
theorem dX4_valueAt_158 : decode cX4_valueAt 158 = .ok (.ireturn, 1) := by decide +kernel
theorem dX4_isHeld_0 : decode cX4_isHeld 0 = .ok (.aload_n 0, 1) := by decide +kernel
theorem dX4_isHeld_1 : decode cX4_isHeld 1 = .ok (.getfield 32, 3) := by decide +kernel
theorem dX4_isHeld_4 : decode cX4_isHeld 4 = .ok (.iconst (-1), 1) := by decide +kernel
theorem dX4_isHeld_5 : decode cX4_isHeld 5 = .ok (.if_icmp .eq 18, 3) := by decide +kernel
theorem dX4_isHeld_8 : decode cX4_isHeld 8 = .ok (.aload_n 0, 1) := by decide +kernel
theorem dX4_isHeld_9 : decode cX4_isHeld 9 = .ok (.getfield 108, 3) := by decide +kernel
theorem dX4_isHeld_12 : decode cX4_isHeld 12 = .ok (.aload_n 0, 1) := by decide +kernel
theorem dX4_isHeld_13 : decode cX4_isHeld 13 = .ok (.getfield 111, 3) := by decide +kernel
theorem dX4_isHeld_16 : decode cX4_isHeld 16 = .ok (.if_icmp .ge 7, 3) := by decide +kernel
theorem dX4_isHeld_19 : decode cX4_isHeld 19 = .ok (.iconst 1, 1) := by decide +kernel
theorem dX4_isHeld_20 : decode cX4_isHeld 20 = .ok (.goto 4, 3) := by decide +kernel
theorem dX4_isHeld_23 : decode cX4_isHeld 23 = .ok (.iconst 0, 1) := by decide +kernel
theorem dX4_isHeld_24 : decode cX4_isHeld 24 = .ok (.ireturn, 1) := by decide +kernel
set_option maxRecDepth 20000 in
theorem ggX4_has_X4_isHeld : GoodIn wsX4_has wsX4_isHeld := goodIn_r _ [6, 1, 7, 8, 9, 10, 11, 12, 13, 14, 15, 16, 17, 18, 19, 20, 21, 22, 23, 24] (by decide +kernel) (by decide +kernel)
set_option maxRecDepth 20000 in
theorem gX4_has_X4_isHeld : GoodIn wsX4_has (wsV RX4 114 RX4 yX4_isHeld wsX4_isHeld) := goodIn_app (goodIn_of _ (by decide +kernel)) ggX4_has_X4_isHeld
theorem dX4_has_0 : decode cX4_has 0 = .ok (.aload_n 0, 1) := by decide +kernel
theorem dX4_has_1 : decode cX4_has 1 = .ok (.invokevirtual 114, 3) := by decide +kernel
theorem dX4_has_4 : decode cX4_has 4 = .ok (.ifCond .eq 15, 3) := by decide +kernel
theorem dX4_has_7 : decode cX4_has 7 = .ok (.aload_n 0, 1) := by decide +kernel
theorem dX4_has_8 : decode cX4_has 8 = .ok (.getfield 32, 3) := by decide +kernel
theorem dX4_has_11 : decode cX4_has 11 = .ok (.iload_n 1, 1) := by decide +kernel
theorem dX4_has_12 : decode cX4_has 12 = .ok (.if_icmp .ne 7, 3) := by decide +kernel
theorem dX4_has_15 : decode cX4_has 15 = .ok (.iconst 1, 1) := by decide +kernel
theorem dX4_has_16 : decode cX4_has 16 = .ok (.goto 4, 3) := by decide +kernel
theorem dX4_has_19 : decode cX4_has 19 = .ok (.iconst 0, 1) := by decide +kernel
theorem dX4_has_20 : decode cX4_has 20 = .ok (.ireturn, 1) := by decide +kernel
set_option maxRecDepth 20000 in
theorem ggX4_isWorker_X4_in : GoodIn wsX4_isWorker wsX4_in := goodIn_r _ [4] (by decide +kernel) (by decide +kernel)
set_option maxRecDepth 20000 in
theorem gX4_isWorker_X4_in : GoodIn wsX4_isWorker (va_wsS RX4 47 yX4_in wsX4_in) := goodIn_app (goodIn_of _ (by decide +kernel)) ggX4_isWorker_X4_in
theorem dX4_isWorker_0 : decode cX4_isWorker 0 = .ok (.iload_n 0, 1) := by decide +kernel
theorem dX4_isWorker_1 : decode cX4_isWorker 1 = .ok (.iconst 0, 1) := by decide +kernel
theorem dX4_isWorker_2 : decode cX4_isWorker 2 = .ok (.iconst 3, 1) := by decide +kernel
theorem dX4_isWorker_3 : decode cX4_isWorker 3 = .ok (.invokestatic 47, 3) := by decide +kernel
theorem dX4_isWorker_6 : decode cX4_isWorker 6 = .ok (.ireturn, 1) := by decide +kernel
set_option maxRecDepth 20000 in
theorem ggX4_cannot_X4_has : GoodIn wsX4_cannot wsX4_has := goodIn_r _ [6, 7, 8, 9, 10, 5, 11, 12, 13, 14, 15, 16, 17, 18, 19, 20, 21, 22, 23, 24, 25, 26, 27, 28, 29] (by decide +kernel) (by decide +kernel)
set_option maxRecDepth 20000 in
theorem gX4_cannot_X4_has : GoodIn wsX4_cannot (wsV RX4 118 RX4 yX4_has wsX4_has) := goodIn_app (goodIn_of _ (by decide +kernel)) ggX4_cannot_X4_has
theorem dX4_cannot_0 : decode cX4_cannot 0 = .ok (.aload_n 0, 1) := by decide +kernel
theorem dX4_cannot_1 : decode cX4_cannot 1 = .ok (.getfield 36, 3) := by decide +kernel
theorem dX4_cannot_4 : decode cX4_cannot 4 = .ok (.iload_n 1, 1) := by decide +kernel
theorem dX4_cannot_5 : decode cX4_cannot 5 = .ok (.baload, 1) := by decide +kernel
theorem dX4_cannot_6 : decode cX4_cannot 6 = .ok (.ifCond .ne 11, 3) := by decide +kernel
theorem dX4_cannot_9 : decode cX4_cannot 9 = .ok (.aload_n 0, 1) := by decide +kernel
theorem dX4_cannot_10 : decode cX4_cannot 10 = .ok (.iload_n 1, 1) := by decide +kernel
theorem dX4_cannot_11 : decode cX4_cannot 11 = .ok (.invokevirtual 118, 3) := by decide +kernel
theorem dX4_cannot_14 : decode cX4_cannot 14 = .ok (.ifCond .ne 7, 3) := by decide +kernel
theorem dX4_cannot_17 : decode cX4_cannot 17 = .ok (.iconst 1, 1) := by decide +kernel
theorem dX4_cannot_18 : decode cX4_cannot 18 = .ok (.goto 4, 3) := by decide +kernel
theorem dX4_cannot_21 : decode cX4_cannot 21 = .ok (.iconst 0, 1) := by decide +kernel
theorem dX4_cannot_22 : decode cX4_cannot 22 = .ok (.ireturn, 1) := by decide +kernel
set_option maxRecDepth 20000 in
theorem ggX4_take_X4_isWorker : GoodIn wsX4_take wsX4_isWorker := goodIn_r _ [8, 9, 10, 7, 11] (by decide +kernel) (by decide +kernel)
set_option maxRecDepth 20000 in
theorem gX4_take_X4_isWorker : GoodIn wsX4_take (va_wsS RX4 121 yX4_isWorker wsX4_isWorker) := goodIn_app (goodIn_of _ (by decide +kernel)) ggX4_take_X4_isWorker
set_option maxRecDepth 20000 in
theorem ggX4_take_X4_in : GoodIn wsX4_take wsX4_in := goodIn_r _ [11] (by decide +kernel) (by decide +kernel)
set_option maxRecDepth 20000 in
theorem gX4_take_X4_in : GoodIn wsX4_take (va_wsS RX4 47 yX4_in wsX4_in) := goodIn_app (goodIn_of _ (by decide +kernel)) ggX4_take_X4_in
set_option maxRecDepth 20000 in
theorem ggX4_take_X4_isHeld : GoodIn wsX4_take wsX4_isHeld := goodIn_r _ [15, 2, 3, 4, 21, 22, 23, 24, 25, 26, 27, 28, 29, 30, 31, 32, 33, 34, 35, 36] (by decide +kernel) (by decide +kernel)
set_option maxRecDepth 20000 in
theorem gX4_take_X4_isHeld : GoodIn wsX4_take (wsV RX4 114 RX4 yX4_isHeld wsX4_isHeld) := goodIn_app (goodIn_of _ (by decide +kernel)) ggX4_take_X4_isHeld
set_option maxRecDepth 20000 in
theorem ggX4_take_X4_refused : GoodIn wsX4_take wsX4_refused := goodIn_r _ [19, 20, 21, 22, 23, 24, 25, 26, 27, 28, 29, 30, 31, 32, 33, 34, 35, 36] (by decide +kernel) (by decide +kernel)
set_option maxRecDepth 20000 in
theorem gX4_take_X4_refused : GoodIn wsX4_take (wsV RX4 58 RX4 yX4_refused wsX4_refused) := goodIn_app (goodIn_of _ (by decide +kernel)) ggX4_take_X4_refused
theorem dX4_take_0 : decode cX4_take 0 = .ok (.iload_n 1, 1) := by decide +kernel
theorem dX4_take_1 : decode cX4_take 1 = .ok (.invokestatic 121, 3) := by decide +kernel
theorem dX4_take_4 : decode cX4_take 4 = .ok (.ifCond .eq 17, 3) := by decide +kernel
theorem dX4_take_7 : decode cX4_take 7 = .ok (.iload_n 2, 1) := by decide +kernel
theorem dX4_take_8 : decode cX4_take 8 = .ok (.iconst 1, 1) := by decide +kernel
theorem dX4_take_9 : decode cX4_take 9 = .ok (.bipush 100, 2) := by decide +kernel
theorem dX4_take_11 : decode cX4_take 11 = .ok (.invokestatic 47, 3) := by decide +kernel
theorem dX4_take_14 : decode cX4_take 14 = .ok (.ifCond .eq 7, 3) := by decide +kernel
theorem dX4_take_17 : decode cX4_take 17 = .ok (.iconst 1, 1) := by decide +kernel
theorem dX4_take_18 : decode cX4_take 18 = .ok (.goto 4, 3) := by decide +kernel
theorem dX4_take_21 : decode cX4_take 21 = .ok (.iconst 0, 1) := by decide +kernel
theorem dX4_take_22 : decode cX4_take 22 = .ok (.istore_n 3, 1) := by decide +kernel
theorem dX4_take_23 : decode cX4_take 23 = .ok (.aload_n 0, 1) := by decide +kernel
theorem dX4_take_24 : decode cX4_take 24 = .ok (.iload_n 3, 1) := by decide +kernel
theorem dX4_take_25 : decode cX4_take 25 = .ok (.ifCond .ne 7, 3) := by decide +kernel
theorem dX4_take_28 : decode cX4_take 28 = .ok (.iconst 1, 1) := by decide +kernel
theorem dX4_take_29 : decode cX4_take 29 = .ok (.goto 32, 3) := by decide +kernel
theorem dX4_take_32 : decode cX4_take 32 = .ok (.aload_n 0, 1) := by decide +kernel
theorem dX4_take_33 : decode cX4_take 33 = .ok (.getfield 36, 3) := by decide +kernel
theorem dX4_take_36 : decode cX4_take 36 = .ok (.iload_n 1, 1) := by decide +kernel
theorem dX4_take_37 : decode cX4_take 37 = .ok (.baload, 1) := by decide +kernel
theorem dX4_take_38 : decode cX4_take 38 = .ok (.ifCond .ne 18, 3) := by decide +kernel
theorem dX4_take_41 : decode cX4_take 41 = .ok (.aload_n 0, 1) := by decide +kernel
theorem dX4_take_42 : decode cX4_take 42 = .ok (.invokevirtual 114, 3) := by decide +kernel
theorem dX4_take_45 : decode cX4_take 45 = .ok (.ifCond .eq 15, 3) := by decide +kernel
theorem dX4_take_48 : decode cX4_take 48 = .ok (.aload_n 0, 1) := by decide +kernel
theorem dX4_take_49 : decode cX4_take 49 = .ok (.getfield 32, 3) := by decide +kernel
theorem dX4_take_52 : decode cX4_take 52 = .ok (.iload_n 1, 1) := by decide +kernel
theorem dX4_take_53 : decode cX4_take 53 = .ok (.if_icmp .eq 7, 3) := by decide +kernel
theorem dX4_take_56 : decode cX4_take 56 = .ok (.iconst 2, 1) := by decide +kernel
theorem dX4_take_57 : decode cX4_take 57 = .ok (.goto 4, 3) := by decide +kernel
theorem dX4_take_60 : decode cX4_take 60 = .ok (.iconst 0, 1) := by decide +kernel
theorem dX4_take_61 : decode cX4_take 61 = .ok (.invokevirtual 58, 3) := by decide +kernel
theorem dX4_take_64 : decode cX4_take 64 = .ok (.ifCond .eq 5, 3) := by decide +kernel
theorem dX4_take_67 : decode cX4_take 67 = .ok (.iconst 0, 1) := by decide +kernel
theorem dX4_take_68 : decode cX4_take 68 = .ok (.ireturn, 1) := by decide +kernel
theorem dX4_take_69 : decode cX4_take 69 = .ok (.aload_n 0, 1) := by decide +kernel
theorem dX4_take_70 : decode cX4_take 70 = .ok (.iload_n 1, 1) := by decide +kernel
theorem dX4_take_71 : decode cX4_take 71 = .ok (.putfield 32, 3) := by decide +kernel
theorem dX4_take_74 : decode cX4_take 74 = .ok (.aload_n 0, 1) := by decide +kernel
theorem dX4_take_75 : decode cX4_take 75 = .ok (.aload_n 0, 1) := by decide +kernel
theorem dX4_take_76 : decode cX4_take 76 = .ok (.getfield 108, 3) := by decide +kernel
theorem dX4_take_79 : decode cX4_take 79 = .ok (.iload_n 2, 1) := by decide +kernel
theorem dX4_take_80 : decode cX4_take 80 = .ok (.iadd, 1) := by decide +kernel
theorem dX4_take_81 : decode cX4_take 81 = .ok (.putfield 111, 3) := by decide +kernel
theorem dX4_take_84 : decode cX4_take 84 = .ok (.aload_n 0, 1) := by decide +kernel
theorem dX4_take_85 : decode cX4_take 85 = .ok (.getfield 111, 3) := by decide +kernel
theorem dX4_take_88 : decode cX4_take 88 = .ok (.ireturn, 1) := by decide +kernel
set_option maxRecDepth 20000 in
theorem ggX4_giveBack_X4_isWorker : GoodIn wsX4_giveBack wsX4_isWorker := goodIn_r _ [5, 6, 7, 4, 8] (by decide +kernel) (by decide +kernel)
set_option maxRecDepth 20000 in
theorem gX4_giveBack_X4_isWorker : GoodIn wsX4_giveBack (va_wsS RX4 121 yX4_isWorker wsX4_isWorker) := goodIn_app (goodIn_of _ (by decide +kernel)) ggX4_giveBack_X4_isWorker
set_option maxRecDepth 20000 in
theorem ggX4_giveBack_X4_cannot : GoodIn wsX4_giveBack wsX4_cannot := goodIn_r _ [12, 13, 14, 15, 16, 4, 17, 1, 18, 19, 20, 21, 22, 23, 29, 30, 31, 32, 33, 34, 35, 36, 37, 38, 39, 40, 41, 42, 43, 44] (by decide +kernel) (by decide +kernel)
set_option maxRecDepth 20000 in
theorem gX4_giveBack_X4_cannot : GoodIn wsX4_giveBack (wsV RX4 124 RX4 yX4_cannot wsX4_cannot) := goodIn_app (goodIn_of _ (by decide +kernel)) ggX4_giveBack_X4_cannot
set_option maxRecDepth 20000 in
theorem ggX4_giveBack_X4_refused : GoodIn wsX4_giveBack wsX4_refused := goodIn_r _ [27, 28, 29, 30, 31, 32, 33, 34, 35, 36, 37, 38, 39, 40, 41, 42, 43, 44] (by decide +kernel) (by decide +kernel)
set_option maxRecDepth 20000 in
theorem gX4_giveBack_X4_refused : GoodIn wsX4_giveBack (wsV RX4 58 RX4 yX4_refused wsX4_refused) := goodIn_app (goodIn_of _ (by decide +kernel)) ggX4_giveBack_X4_refused
theorem dX4_giveBack_0 : decode cX4_giveBack 0 = .ok (.aload_n 0, 1) := by decide +kernel
theorem dX4_giveBack_1 : decode cX4_giveBack 1 = .ok (.iload_n 1, 1) := by decide +kernel
theorem dX4_giveBack_2 : decode cX4_giveBack 2 = .ok (.invokestatic 121, 3) := by decide +kernel
theorem dX4_giveBack_5 : decode cX4_giveBack 5 = .ok (.ifCond .ne 7, 3) := by decide +kernel
theorem dX4_giveBack_8 : decode cX4_giveBack 8 = .ok (.iconst 1, 1) := by decide +kernel
theorem dX4_giveBack_9 : decode cX4_giveBack 9 = .ok (.goto 16, 3) := by decide +kernel
theorem dX4_giveBack_12 : decode cX4_giveBack 12 = .ok (.aload_n 0, 1) := by decide +kernel
theorem dX4_giveBack_13 : decode cX4_giveBack 13 = .ok (.iload_n 1, 1) := by decide +kernel
theorem dX4_giveBack_14 : decode cX4_giveBack 14 = .ok (.invokevirtual 124, 3) := by decide +kernel
theorem dX4_giveBack_17 : decode cX4_giveBack 17 = .ok (.ifCond .eq 7, 3) := by decide +kernel
theorem dX4_giveBack_20 : decode cX4_giveBack 20 = .ok (.iconst 2, 1) := by decide +kernel
theorem dX4_giveBack_21 : decode cX4_giveBack 21 = .ok (.goto 4, 3) := by decide +kernel
theorem dX4_giveBack_24 : decode cX4_giveBack 24 = .ok (.iconst 0, 1) := by decide +kernel
theorem dX4_giveBack_25 : decode cX4_giveBack 25 = .ok (.invokevirtual 58, 3) := by decide +kernel
theorem dX4_giveBack_28 : decode cX4_giveBack 28 = .ok (.ifCond .ne 8, 3) := by decide +kernel
theorem dX4_giveBack_31 : decode cX4_giveBack 31 = .ok (.aload_n 0, 1) := by decide +kernel
theorem dX4_giveBack_32 : decode cX4_giveBack 32 = .ok (.iconst (-1), 1) := by decide +kernel
theorem dX4_giveBack_33 : decode cX4_giveBack 33 = .ok (.putfield 32, 3) := by decide +kernel
theorem dX4_giveBack_36 : decode cX4_giveBack 36 = .ok (.return_, 1) := by decide +kernel
set_option maxRecDepth 20000 in
theorem ggX4_holder_X4_isHeld : GoodIn wsX4_holder wsX4_isHeld := goodIn_r _ [6, 1, 7, 8, 14, 15, 16, 17, 18, 19, 20, 21, 22, 23, 24, 25, 26, 27, 28, 29] (by decide +kernel) (by decide +kernel)
set_option maxRecDepth 20000 in
theorem gX4_holder_X4_isHeld : GoodIn wsX4_holder (wsV RX4 114 RX4 yX4_isHeld wsX4_isHeld) := goodIn_app (goodIn_of _ (by decide +kernel)) ggX4_holder_X4_isHeld
set_option maxRecDepth 20000 in
theorem ggX4_holder_X4_fine : GoodIn wsX4_holder wsX4_fine := goodIn_r _ [12, 13, 14, 15, 16, 17, 18, 19, 20, 21, 22, 23, 24, 25, 26, 27, 28, 29] (by decide +kernel) (by decide +kernel)
set_option maxRecDepth 20000 in
theorem gX4_holder_X4_fine : GoodIn wsX4_holder (wsV RX4 79 RX4 yX4_fine wsX4_fine) := goodIn_app (goodIn_of _ (by decide +kernel)) ggX4_holder_X4_fine
theorem dX4_holder_0 : decode cX4_holder 0 = .ok (.aload_n 0, 1) := by decide +kernel
theorem dX4_holder_1 : decode cX4_holder 1 = .ok (.aload_n 0, 1) := by decide +kernel
theorem dX4_holder_2 : decode cX4_holder 2 = .ok (.invokevirtual 114, 3) := by decide +kernel
theorem dX4_holder_5 : decode cX4_holder 5 = .ok (.ifCond .eq 10, 3) := by decide +kernel
theorem dX4_holder_8 : decode cX4_holder 8 = .ok (.aload_n 0, 1) := by decide +kernel
theorem dX4_holder_9 : decode cX4_holder 9 = .ok (.getfield 32, 3) := by decide +kernel
theorem dX4_holder_12 : decode cX4_holder 12 = .ok (.goto 4, 3) := by decide +kernel
theorem dX4_holder_15 : decode cX4_holder 15 = .ok (.iconst (-1), 1) := by decide +kernel
theorem dX4_holder_16 : decode cX4_holder 16 = .ok (.invokevirtual 79, 3) := by decide +kernel
theorem dX4_holder_19 : decode cX4_holder 19 = .ok (.ireturn, 1) := by decide +kernel
set_option maxRecDepth 20000 in
theorem ggX4_restart_X4_isWorker : GoodIn wsX4_restart wsX4_isWorker := goodIn_r _ [5, 6, 7, 4, 8] (by decide +kernel) (by decide +kernel)
set_option maxRecDepth 20000 in
theorem gX4_restart_X4_isWorker : GoodIn wsX4_restart (va_wsS RX4 121 yX4_isWorker wsX4_isWorker) := goodIn_app (goodIn_of _ (by decide +kernel)) ggX4_restart_X4_isWorker
set_option maxRecDepth 20000 in
theorem ggX4_restart_X4_refused : GoodIn wsX4_restart wsX4_refused := goodIn_r _ [12, 13, 25, 26, 27, 28, 29, 30, 31, 32, 33, 34, 35, 36, 37, 38, 39, 40] (by decide +kernel) (by decide +kernel)
set_option maxRecDepth 20000 in
theorem gX4_restart_X4_refused : GoodIn wsX4_restart (wsV RX4 58 RX4 yX4_refused wsX4_refused) := goodIn_app (goodIn_of _ (by decide +kernel)) ggX4_restart_X4_refused
set_option maxRecDepth 20000 in
theorem ggX4_restart_X4_has : GoodIn wsX4_restart wsX4_has := goodIn_r _ [17, 18, 19, 20, 21, 4, 22, 23, 24, 25, 26, 27, 28, 29, 30, 31, 32, 33, 34, 35, 36, 37, 38, 39, 40] (by decide +kernel) (by decide +kernel)
set_option maxRecDepth 20000 in
theorem gX4_restart_X4_has : GoodIn wsX4_restart (wsV RX4 118 RX4 yX4_has wsX4_has) := goodIn_app (goodIn_of _ (by decide +kernel)) ggX4_restart_X4_has
theorem dX4_restart_0 : decode cX4_restart 0 = .ok (.aload_n 0, 1) := by decide +kernel
theorem dX4_restart_1 : decode cX4_restart 1 = .ok (.iload_n 1, 1) := by decide +kernel
theorem dX4_restart_2 : decode cX4_restart 2 = .ok (.invokestatic 121, 3) := by decide +kernel
theorem dX4_restart_5 : decode cX4_restart 5 = .ok (.ifCond .ne 7, 3) := by decide +kernel
theorem dX4_restart_8 : decode cX4_restart 8 = .ok (.iconst 1, 1) := by decide +kernel
theorem dX4_restart_9 : decode cX4_restart 9 = .ok (.goto 17, 3) := by decide +kernel
theorem dX4_restart_12 : decode cX4_restart 12 = .ok (.aload_n 0, 1) := by decide +kernel
theorem dX4_restart_13 : decode cX4_restart 13 = .ok (.getfield 36, 3) := by decide +kernel
theorem dX4_restart_16 : decode cX4_restart 16 = .ok (.iload_n 1, 1) := by decide +kernel
theorem dX4_restart_17 : decode cX4_restart 17 = .ok (.baload, 1) := by decide +kernel
theorem dX4_restart_18 : decode cX4_restart 18 = .ok (.ifCond .eq 7, 3) := by decide +kernel
theorem dX4_restart_21 : decode cX4_restart 21 = .ok (.iconst 0, 1) := by decide +kernel
theorem dX4_restart_22 : decode cX4_restart 22 = .ok (.goto 4, 3) := by decide +kernel
theorem dX4_restart_25 : decode cX4_restart 25 = .ok (.iconst 2, 1) := by decide +kernel
theorem dX4_restart_26 : decode cX4_restart 26 = .ok (.invokevirtual 58, 3) := by decide +kernel
theorem dX4_restart_29 : decode cX4_restart 29 = .ok (.ifCond .eq 5, 3) := by decide +kernel
theorem dX4_restart_32 : decode cX4_restart 32 = .ok (.iconst 0, 1) := by decide +kernel
theorem dX4_restart_33 : decode cX4_restart 33 = .ok (.ireturn, 1) := by decide +kernel
theorem dX4_restart_34 : decode cX4_restart 34 = .ok (.aload_n 0, 1) := by decide +kernel
theorem dX4_restart_35 : decode cX4_restart 35 = .ok (.getfield 36, 3) := by decide +kernel
theorem dX4_restart_38 : decode cX4_restart 38 = .ok (.iload_n 1, 1) := by decide +kernel
theorem dX4_restart_39 : decode cX4_restart 39 = .ok (.iconst 0, 1) := by decide +kernel
theorem dX4_restart_40 : decode cX4_restart 40 = .ok (.bastore, 1) := by decide +kernel
theorem dX4_restart_41 : decode cX4_restart 41 = .ok (.aload_n 0, 1) := by decide +kernel
theorem dX4_restart_42 : decode cX4_restart 42 = .ok (.iload_n 1, 1) := by decide +kernel
theorem dX4_restart_43 : decode cX4_restart 43 = .ok (.invokevirtual 118, 3) := by decide +kernel
theorem dX4_restart_46 : decode cX4_restart 46 = .ok (.ireturn, 1) := by decide +kernel
set_option maxRecDepth 20000 in
theorem ggX4_pass_X4_in : GoodIn wsX4_pass wsX4_in := goodIn_r _ [5] (by decide +kernel) (by decide +kernel)
set_option maxRecDepth 20000 in
theorem gX4_pass_X4_in : GoodIn wsX4_pass (va_wsS RX4 47 yX4_in wsX4_in) := goodIn_app (goodIn_of _ (by decide +kernel)) ggX4_pass_X4_in
set_option maxRecDepth 20000 in
theorem ggX4_pass_X4_refused : GoodIn wsX4_pass wsX4_refused := goodIn_r _ [9, 10, 11, 12, 13, 14, 15, 16, 17, 18, 19, 20, 21, 22, 23, 24, 25, 26] (by decide +kernel) (by decide +kernel)
set_option maxRecDepth 20000 in
theorem gX4_pass_X4_refused : GoodIn wsX4_pass (wsV RX4 58 RX4 yX4_refused wsX4_refused) := goodIn_app (goodIn_of _ (by decide +kernel)) ggX4_pass_X4_refused
theorem dX4_pass_0 : decode cX4_pass 0 = .ok (.aload_n 0, 1) := by decide +kernel
theorem dX4_pass_1 : decode cX4_pass 1 = .ok (.iload_n 1, 1) := by decide +kernel
theorem dX4_pass_2 : decode cX4_pass 2 = .ok (.iconst 1, 1) := by decide +kernel
theorem dX4_pass_3 : decode cX4_pass 3 = .ok (.sipush 1000, 3) := by decide +kernel
theorem dX4_pass_6 : decode cX4_pass 6 = .ok (.invokestatic 47, 3) := by decide +kernel
theorem dX4_pass_9 : decode cX4_pass 9 = .ok (.ifCond .eq 7, 3) := by decide +kernel
theorem dX4_pass_12 : decode cX4_pass 12 = .ok (.iconst 0, 1) := by decide +kernel
theorem dX4_pass_13 : decode cX4_pass 13 = .ok (.goto 4, 3) := by decide +kernel
theorem dX4_pass_16 : decode cX4_pass 16 = .ok (.iconst 1, 1) := by decide +kernel
theorem dX4_pass_17 : decode cX4_pass 17 = .ok (.invokevirtual 58, 3) := by decide +kernel
theorem dX4_pass_20 : decode cX4_pass 20 = .ok (.ifCond .eq 5, 3) := by decide +kernel
theorem dX4_pass_23 : decode cX4_pass 23 = .ok (.iconst 0, 1) := by decide +kernel
theorem dX4_pass_24 : decode cX4_pass 24 = .ok (.ireturn, 1) := by decide +kernel
theorem dX4_pass_25 : decode cX4_pass 25 = .ok (.aload_n 0, 1) := by decide +kernel
theorem dX4_pass_26 : decode cX4_pass 26 = .ok (.dup, 1) := by decide +kernel
theorem dX4_pass_27 : decode cX4_pass 27 = .ok (.getfield 108, 3) := by decide +kernel
theorem dX4_pass_30 : decode cX4_pass 30 = .ok (.iload_n 1, 1) := by decide +kernel
theorem dX4_pass_31 : decode cX4_pass 31 = .ok (.iadd, 1) := by decide +kernel
theorem dX4_pass_32 : decode cX4_pass 32 = .ok (.putfield 108, 3) := by decide +kernel
theorem dX4_pass_35 : decode cX4_pass 35 = .ok (.aload_n 0, 1) := by decide +kernel
theorem dX4_pass_36 : decode cX4_pass 36 = .ok (.getfield 108, 3) := by decide +kernel
theorem dX4_pass_39 : decode cX4_pass 39 = .ok (.ireturn, 1) := by decide +kernel
set_option maxRecDepth 20000 in
theorem ggX4_begin_X4_isWorker : GoodIn wsX4_begin wsX4_isWorker := goodIn_r _ [9, 10, 11, 8, 12] (by decide +kernel) (by decide +kernel)
set_option maxRecDepth 20000 in
theorem gX4_begin_X4_isWorker : GoodIn wsX4_begin (va_wsS RX4 121 yX4_isWorker wsX4_isWorker) := goodIn_app (goodIn_of _ (by decide +kernel)) ggX4_begin_X4_isWorker
set_option maxRecDepth 20000 in
theorem ggX4_begin_X4_cannot : GoodIn wsX4_begin wsX4_cannot := goodIn_r _ [16, 17, 18, 19, 20, 8, 21, 22, 23, 24, 25, 26, 27, 28, 46, 47, 48, 49, 50, 51, 52, 53, 54, 55, 56, 57, 58, 59, 60, 61] (by decide +kernel) (by decide +kernel)
set_option maxRecDepth 20000 in
theorem gX4_begin_X4_cannot : GoodIn wsX4_begin (wsV RX4 124 RX4 yX4_cannot wsX4_cannot) := goodIn_app (goodIn_of _ (by decide +kernel)) ggX4_begin_X4_cannot
set_option maxRecDepth 20000 in
theorem ggX4_begin_X4_firstDrift : GoodIn wsX4_begin wsX4_firstDrift := goodIn_r _ [32, 2, 5, 33, 34, 35, 8, 36, 37, 38, 39, 40, 46, 47, 48, 49, 50, 51, 52, 53, 54, 55, 56, 57, 58, 59, 60, 61] (by decide +kernel) (by decide +kernel)
set_option maxRecDepth 20000 in
theorem gX4_begin_X4_firstDrift : GoodIn wsX4_begin (wsV RX4 82 RX4 yX4_firstDrift wsX4_firstDrift) := goodIn_app (goodIn_of _ (by decide +kernel)) ggX4_begin_X4_firstDrift
set_option maxRecDepth 20000 in
theorem ggX4_begin_X4_refused : GoodIn wsX4_begin wsX4_refused := goodIn_r _ [44, 45, 46, 47, 48, 49, 50, 51, 52, 53, 54, 55, 56, 57, 58, 59, 60, 61] (by decide +kernel) (by decide +kernel)
set_option maxRecDepth 20000 in
theorem gX4_begin_X4_refused : GoodIn wsX4_begin (wsV RX4 58 RX4 yX4_refused wsX4_refused) := goodIn_app (goodIn_of _ (by decide +kernel)) ggX4_begin_X4_refused
set_option maxRecDepth 20000 in
theorem ggX4_begin_X4_sumOf : GoodIn wsX4_begin wsX4_sumOf := goodIn_r _ [36, 37, 38, 39, 40, 46, 47, 48, 49, 50, 51, 52, 53, 54, 55, 56, 57, 58, 59, 60, 61] (by decide +kernel) (by decide +kernel)
set_option maxRecDepth 20000 in
theorem gX4_begin_X4_sumOf : GoodIn wsX4_begin (wsV RX4 76 RX4 yX4_sumOf wsX4_sumOf) := goodIn_app (goodIn_of _ (by decide +kernel)) ggX4_begin_X4_sumOf
theorem dX4_begin_0 : decode cX4_begin 0 = .ok (.aload_n 0, 1) := by decide +kernel
theorem dX4_begin_1 : decode cX4_begin 1 = .ok (.iload_n 1, 1) := by decide +kernel
theorem dX4_begin_2 : decode cX4_begin 2 = .ok (.invokestatic 121, 3) := by decide +kernel
theorem dX4_begin_5 : decode cX4_begin 5 = .ok (.ifCond .ne 7, 3) := by decide +kernel
theorem dX4_begin_8 : decode cX4_begin 8 = .ok (.iconst 1, 1) := by decide +kernel
theorem dX4_begin_9 : decode cX4_begin 9 = .ok (.goto 41, 3) := by decide +kernel
theorem dX4_begin_12 : decode cX4_begin 12 = .ok (.aload_n 0, 1) := by decide +kernel
theorem dX4_begin_13 : decode cX4_begin 13 = .ok (.iload_n 1, 1) := by decide +kernel
theorem dX4_begin_14 : decode cX4_begin 14 = .ok (.invokevirtual 124, 3) := by decide +kernel
theorem dX4_begin_17 : decode cX4_begin 17 = .ok (.ifCond .ne 28, 3) := by decide +kernel
theorem dX4_begin_20 : decode cX4_begin 20 = .ok (.aload_n 0, 1) := by decide +kernel
theorem dX4_begin_21 : decode cX4_begin 21 = .ok (.getfield 69, 3) := by decide +kernel
theorem dX4_begin_24 : decode cX4_begin 24 = .ok (.ifCond .ne 21, 3) := by decide +kernel
theorem dX4_begin_27 : decode cX4_begin 27 = .ok (.aload_n 0, 1) := by decide +kernel
theorem dX4_begin_28 : decode cX4_begin 28 = .ok (.invokevirtual 82, 3) := by decide +kernel
theorem dX4_begin_31 : decode cX4_begin 31 = .ok (.ifCond .ne 14, 3) := by decide +kernel
theorem dX4_begin_34 : decode cX4_begin 34 = .ok (.aload_n 0, 1) := by decide +kernel
theorem dX4_begin_35 : decode cX4_begin 35 = .ok (.getfield 66, 3) := by decide +kernel
theorem dX4_begin_38 : decode cX4_begin 38 = .ok (.aload_n 0, 1) := by decide +kernel
theorem dX4_begin_39 : decode cX4_begin 39 = .ok (.getfield 55, 3) := by decide +kernel
theorem dX4_begin_42 : decode cX4_begin 42 = .ok (.if_icmp .ne 7, 3) := by decide +kernel
theorem dX4_begin_45 : decode cX4_begin 45 = .ok (.iconst 2, 1) := by decide +kernel
theorem dX4_begin_46 : decode cX4_begin 46 = .ok (.goto 4, 3) := by decide +kernel
theorem dX4_begin_49 : decode cX4_begin 49 = .ok (.iconst 0, 1) := by decide +kernel
theorem dX4_begin_50 : decode cX4_begin 50 = .ok (.invokevirtual 58, 3) := by decide +kernel
theorem dX4_begin_53 : decode cX4_begin 53 = .ok (.ifCond .eq 5, 3) := by decide +kernel
theorem dX4_begin_56 : decode cX4_begin 56 = .ok (.iconst 0, 1) := by decide +kernel
theorem dX4_begin_57 : decode cX4_begin 57 = .ok (.ireturn, 1) := by decide +kernel
theorem dX4_begin_58 : decode cX4_begin 58 = .ok (.aload_n 0, 1) := by decide +kernel
theorem dX4_begin_59 : decode cX4_begin 59 = .ok (.iconst 1, 1) := by decide +kernel
theorem dX4_begin_60 : decode cX4_begin 60 = .ok (.putfield 69, 3) := by decide +kernel
theorem dX4_begin_63 : decode cX4_begin 63 = .ok (.aload_n 0, 1) := by decide +kernel
theorem dX4_begin_64 : decode cX4_begin 64 = .ok (.iconst 0, 1) := by decide +kernel
theorem dX4_begin_65 : decode cX4_begin 65 = .ok (.putfield 93, 3) := by decide +kernel
theorem dX4_begin_68 : decode cX4_begin 68 = .ok (.aload_n 0, 1) := by decide +kernel
theorem dX4_begin_69 : decode cX4_begin 69 = .ok (.getfield 19, 3) := by decide +kernel
theorem dX4_begin_72 : decode cX4_begin 72 = .ok (.aload_n 0, 1) := by decide +kernel
theorem dX4_begin_73 : decode cX4_begin 73 = .ok (.getfield 66, 3) := by decide +kernel
theorem dX4_begin_76 : decode cX4_begin 76 = .ok (.iconst 1, 1) := by decide +kernel
theorem dX4_begin_77 : decode cX4_begin 77 = .ok (.iadd, 1) := by decide +kernel
theorem dX4_begin_78 : decode cX4_begin 78 = .ok (.aload_n 0, 1) := by decide +kernel
theorem dX4_begin_79 : decode cX4_begin 79 = .ok (.aload_n 0, 1) := by decide +kernel
theorem dX4_begin_80 : decode cX4_begin 80 = .ok (.getfield 66, 3) := by decide +kernel
theorem dX4_begin_83 : decode cX4_begin 83 = .ok (.iconst 1, 1) := by decide +kernel
theorem dX4_begin_84 : decode cX4_begin 84 = .ok (.iadd, 1) := by decide +kernel
theorem dX4_begin_85 : decode cX4_begin 85 = .ok (.invokevirtual 76, 3) := by decide +kernel
theorem dX4_begin_88 : decode cX4_begin 88 = .ok (.iastore, 1) := by decide +kernel
theorem dX4_begin_89 : decode cX4_begin 89 = .ok (.aload_n 0, 1) := by decide +kernel
theorem dX4_begin_90 : decode cX4_begin 90 = .ok (.getfield 66, 3) := by decide +kernel
theorem dX4_begin_93 : decode cX4_begin 93 = .ok (.iconst 1, 1) := by decide +kernel
theorem dX4_begin_94 : decode cX4_begin 94 = .ok (.iadd, 1) := by decide +kernel
theorem dX4_begin_95 : decode cX4_begin 95 = .ok (.ireturn, 1) := by decide +kernel
set_option maxRecDepth 20000 in
theorem ggX4_undo_X4_sumOf : GoodIn wsX4_undo wsX4_sumOf := goodIn_r _ [9, 10, 11, 12, 13, 41, 42, 43, 44, 45, 46, 47, 48, 49, 50, 51, 52, 53, 54, 55, 56] (by decide +kernel) (by decide +kernel)
set_option maxRecDepth 20000 in
theorem gX4_undo_X4_sumOf : GoodIn wsX4_undo (wsV RX4 76 RX4 yX4_sumOf wsX4_sumOf) := goodIn_app (goodIn_of _ (by decide +kernel)) ggX4_undo_X4_sumOf
set_option maxRecDepth 20000 in
theorem ggX4_undo_X4_isWorker : GoodIn wsX4_undo wsX4_isWorker := goodIn_r _ [16, 17, 18, 8, 19] (by decide +kernel) (by decide +kernel)
set_option maxRecDepth 20000 in
theorem gX4_undo_X4_isWorker : GoodIn wsX4_undo (va_wsS RX4 121 yX4_isWorker wsX4_isWorker) := goodIn_app (goodIn_of _ (by decide +kernel)) ggX4_undo_X4_isWorker
set_option maxRecDepth 20000 in
theorem ggX4_undo_X4_cannot : GoodIn wsX4_undo wsX4_cannot := goodIn_r _ [23, 24, 25, 26, 27, 8, 28, 29, 30, 31, 32, 33, 34, 35, 41, 42, 43, 44, 45, 46, 47, 48, 49, 50, 51, 52, 53, 54, 55, 56] (by decide +kernel) (by decide +kernel)
set_option maxRecDepth 20000 in
theorem gX4_undo_X4_cannot : GoodIn wsX4_undo (wsV RX4 124 RX4 yX4_cannot wsX4_cannot) := goodIn_app (goodIn_of _ (by decide +kernel)) ggX4_undo_X4_cannot
set_option maxRecDepth 20000 in
theorem ggX4_undo_X4_refused : GoodIn wsX4_undo wsX4_refused := goodIn_r _ [39, 40, 41, 42, 43, 44, 45, 46, 47, 48, 49, 50, 51, 52, 53, 54, 55, 56] (by decide +kernel) (by decide +kernel)
set_option maxRecDepth 20000 in
theorem gX4_undo_X4_refused : GoodIn wsX4_undo (wsV RX4 58 RX4 yX4_refused wsX4_refused) := goodIn_app (goodIn_of _ (by decide +kernel)) ggX4_undo_X4_refused
theorem dX4_undo_0 : decode cX4_undo 0 = .ok (.aload_n 0, 1) := by decide +kernel
theorem dX4_undo_1 : decode cX4_undo 1 = .ok (.getfield 69, 3) := by decide +kernel
theorem dX4_undo_4 : decode cX4_undo 4 = .ok (.iconst 3, 1) := by decide +kernel
theorem dX4_undo_5 : decode cX4_undo 5 = .ok (.if_icmp .eq 37, 3) := by decide +kernel
theorem dX4_undo_8 : decode cX4_undo 8 = .ok (.aload_n 0, 1) := by decide +kernel
theorem dX4_undo_9 : decode cX4_undo 9 = .ok (.getfield 69, 3) := by decide +kernel
theorem dX4_undo_12 : decode cX4_undo 12 = .ok (.ifCond .ne 34, 3) := by decide +kernel
theorem dX4_undo_15 : decode cX4_undo 15 = .ok (.aload_n 0, 1) := by decide +kernel
theorem dX4_undo_16 : decode cX4_undo 16 = .ok (.getfield 66, 3) := by decide +kernel
theorem dX4_undo_19 : decode cX4_undo 19 = .ok (.ifCond .eq 23, 3) := by decide +kernel
theorem dX4_undo_22 : decode cX4_undo 22 = .ok (.aload_n 0, 1) := by decide +kernel
theorem dX4_undo_23 : decode cX4_undo 23 = .ok (.aload_n 0, 1) := by decide +kernel
theorem dX4_undo_24 : decode cX4_undo 24 = .ok (.getfield 66, 3) := by decide +kernel
theorem dX4_undo_27 : decode cX4_undo 27 = .ok (.invokevirtual 76, 3) := by decide +kernel
theorem dX4_undo_30 : decode cX4_undo 30 = .ok (.aload_n 0, 1) := by decide +kernel
theorem dX4_undo_31 : decode cX4_undo 31 = .ok (.getfield 19, 3) := by decide +kernel
theorem dX4_undo_34 : decode cX4_undo 34 = .ok (.aload_n 0, 1) := by decide +kernel
theorem dX4_undo_35 : decode cX4_undo 35 = .ok (.getfield 66, 3) := by decide +kernel
theorem dX4_undo_38 : decode cX4_undo 38 = .ok (.iaload, 1) := by decide +kernel
theorem dX4_undo_39 : decode cX4_undo 39 = .ok (.if_icmp .eq 7, 3) := by decide +kernel
theorem dX4_undo_42 : decode cX4_undo 42 = .ok (.iconst 1, 1) := by decide +kernel
theorem dX4_undo_43 : decode cX4_undo 43 = .ok (.goto 4, 3) := by decide +kernel
theorem dX4_undo_46 : decode cX4_undo 46 = .ok (.iconst 0, 1) := by decide +kernel
theorem dX4_undo_47 : decode cX4_undo 47 = .ok (.istore_n 2, 1) := by decide +kernel
theorem dX4_undo_48 : decode cX4_undo 48 = .ok (.aload_n 0, 1) := by decide +kernel
theorem dX4_undo_49 : decode cX4_undo 49 = .ok (.iload_n 1, 1) := by decide +kernel
theorem dX4_undo_50 : decode cX4_undo 50 = .ok (.invokestatic 121, 3) := by decide +kernel
theorem dX4_undo_53 : decode cX4_undo 53 = .ok (.ifCond .ne 7, 3) := by decide +kernel
theorem dX4_undo_56 : decode cX4_undo 56 = .ok (.iconst 1, 1) := by decide +kernel
theorem dX4_undo_57 : decode cX4_undo 57 = .ok (.goto 20, 3) := by decide +kernel
theorem dX4_undo_60 : decode cX4_undo 60 = .ok (.aload_n 0, 1) := by decide +kernel
theorem dX4_undo_61 : decode cX4_undo 61 = .ok (.iload_n 1, 1) := by decide +kernel
theorem dX4_undo_62 : decode cX4_undo 62 = .ok (.invokevirtual 124, 3) := by decide +kernel
theorem dX4_undo_65 : decode cX4_undo 65 = .ok (.ifCond .ne 7, 3) := by decide +kernel
theorem dX4_undo_68 : decode cX4_undo 68 = .ok (.iload_n 2, 1) := by decide +kernel
theorem dX4_undo_69 : decode cX4_undo 69 = .ok (.ifCond .eq 7, 3) := by decide +kernel
theorem dX4_undo_72 : decode cX4_undo 72 = .ok (.iconst 2, 1) := by decide +kernel
theorem dX4_undo_73 : decode cX4_undo 73 = .ok (.goto 4, 3) := by decide +kernel
theorem dX4_undo_76 : decode cX4_undo 76 = .ok (.iconst 0, 1) := by decide +kernel
theorem dX4_undo_77 : decode cX4_undo 77 = .ok (.invokevirtual 58, 3) := by decide +kernel
theorem dX4_undo_80 : decode cX4_undo 80 = .ok (.ifCond .eq 5, 3) := by decide +kernel
theorem dX4_undo_83 : decode cX4_undo 83 = .ok (.iconst 0, 1) := by decide +kernel
theorem dX4_undo_84 : decode cX4_undo 84 = .ok (.ireturn, 1) := by decide +kernel
theorem dX4_undo_85 : decode cX4_undo 85 = .ok (.aload_n 0, 1) := by decide +kernel
theorem dX4_undo_86 : decode cX4_undo 86 = .ok (.dup, 1) := by decide +kernel
theorem dX4_undo_87 : decode cX4_undo 87 = .ok (.getfield 66, 3) := by decide +kernel
theorem dX4_undo_90 : decode cX4_undo 90 = .ok (.aload_n 0, 1) := by decide +kernel
theorem dX4_undo_91 : decode cX4_undo 91 = .ok (.getfield 69, 3) := by decide +kernel
theorem dX4_undo_94 : decode cX4_undo 94 = .ok (.ifCond .ne 7, 3) := by decide +kernel
theorem dX4_undo_97 : decode cX4_undo 97 = .ok (.iconst 1, 1) := by decide +kernel
theorem dX4_undo_98 : decode cX4_undo 98 = .ok (.goto 4, 3) := by decide +kernel
theorem dX4_undo_101 : decode cX4_undo 101 = .ok (.iconst 0, 1) := by decide +kernel
theorem dX4_undo_102 : decode cX4_undo 102 = .ok (.isub, 1) := by decide +kernel
theorem dX4_undo_103 : decode cX4_undo 103 = .ok (.putfield 66, 3) := by decide +kernel
theorem dX4_undo_106 : decode cX4_undo 106 = .ok (.aload_n 0, 1) := by decide +kernel
theorem dX4_undo_107 : decode cX4_undo 107 = .ok (.iconst 3, 1) := by decide +kernel
theorem dX4_undo_108 : decode cX4_undo 108 = .ok (.putfield 69, 3) := by decide +kernel
theorem dX4_undo_111 : decode cX4_undo 111 = .ok (.aload_n 0, 1) := by decide +kernel
theorem dX4_undo_112 : decode cX4_undo 112 = .ok (.bipush 40, 2) := by decide +kernel
theorem dX4_undo_114 : decode cX4_undo 114 = .ok (.putfield 93, 3) := by decide +kernel
theorem dX4_undo_117 : decode cX4_undo 117 = .ok (.aload_n 0, 1) := by decide +kernel
theorem dX4_undo_118 : decode cX4_undo 118 = .ok (.getfield 66, 3) := by decide +kernel
theorem dX4_undo_121 : decode cX4_undo 121 = .ok (.iconst 1, 1) := by decide +kernel
theorem dX4_undo_122 : decode cX4_undo 122 = .ok (.iadd, 1) := by decide +kernel
theorem dX4_undo_123 : decode cX4_undo 123 = .ok (.ireturn, 1) := by decide +kernel
set_option maxRecDepth 20000 in
theorem ggX4_step_X4_isWorker : GoodIn wsX4_step wsX4_isWorker := goodIn_r _ [11, 12, 13, 10, 14] (by decide +kernel) (by decide +kernel)
set_option maxRecDepth 20000 in
theorem gX4_step_X4_isWorker : GoodIn wsX4_step (va_wsS RX4 121 yX4_isWorker wsX4_isWorker) := goodIn_app (goodIn_of _ (by decide +kernel)) ggX4_step_X4_isWorker
set_option maxRecDepth 20000 in
theorem ggX4_step_X4_in : GoodIn wsX4_step wsX4_in := goodIn_r _ [14] (by decide +kernel) (by decide +kernel)
set_option maxRecDepth 20000 in
theorem gX4_step_X4_in : GoodIn wsX4_step (va_wsS RX4 47 yX4_in wsX4_in) := goodIn_app (goodIn_of _ (by decide +kernel)) ggX4_step_X4_in
set_option maxRecDepth 20000 in
theorem ggX4_step_X4_cannot : GoodIn wsX4_step wsX4_cannot := goodIn_r _ [18, 7, 19, 20, 21, 10, 22, 23, 24, 25, 26, 27, 28, 29, 51, 52, 53, 54, 55, 56, 57, 58, 59, 60, 61, 62, 63, 64, 65, 66] (by decide +kernel) (by decide +kernel)
set_option maxRecDepth 20000 in
theorem gX4_step_X4_cannot : GoodIn wsX4_step (wsV RX4 124 RX4 yX4_cannot wsX4_cannot) := goodIn_app (goodIn_of _ (by decide +kernel)) ggX4_step_X4_cannot
set_option maxRecDepth 20000 in
theorem ggX4_step_X4_refused : GoodIn wsX4_step wsX4_refused := goodIn_r _ [33, 34, 51, 52, 53, 54, 55, 56, 57, 58, 59, 60, 61, 62, 63, 64, 65, 66] (by decide +kernel) (by decide +kernel)
set_option maxRecDepth 20000 in
theorem gX4_step_X4_refused : GoodIn wsX4_step (wsV RX4 58 RX4 yX4_refused wsX4_refused) := goodIn_app (goodIn_of _ (by decide +kernel)) ggX4_step_X4_refused
set_option maxRecDepth 20000 in
theorem ggX4_step_X4_takeSpare : GoodIn wsX4_step wsX4_takeSpare := goodIn_r _ [38, 6, 5, 51, 52, 53, 54, 55, 56, 57, 58, 59, 60, 61, 62, 63, 64, 65, 66] (by decide +kernel) (by decide +kernel)
set_option maxRecDepth 20000 in
theorem gX4_step_X4_takeSpare : GoodIn wsX4_step (wsV RX4 100 RX4 yX4_takeSpare wsX4_takeSpare) := goodIn_app (goodIn_of _ (by decide +kernel)) ggX4_step_X4_takeSpare
set_option maxRecDepth 20000 in
theorem ggX4_step_X4_tries : GoodIn wsX4_step wsX4_tries := goodIn_r _ [42, 43, 44, 6, 45, 46, 47, 10, 48, 49, 50, 51, 52, 53, 54, 55, 56, 57, 58, 59, 60, 61, 62, 63, 64, 65, 66] (by decide +kernel) (by decide +kernel)
set_option maxRecDepth 20000 in
theorem gX4_step_X4_tries : GoodIn wsX4_step (wsV RX4 104 RX4 yX4_tries wsX4_tries) := goodIn_app (goodIn_of _ (by decide +kernel)) ggX4_step_X4_tries
theorem dX4_step_0 : decode cX4_step 0 = .ok (.iload_n 1, 1) := by decide +kernel
theorem dX4_step_1 : decode cX4_step 1 = .ok (.invokestatic 121, 3) := by decide +kernel
theorem dX4_step_4 : decode cX4_step 4 = .ok (.ifCond .eq 27, 3) := by decide +kernel
theorem dX4_step_7 : decode cX4_step 7 = .ok (.iload_n 2, 1) := by decide +kernel
theorem dX4_step_8 : decode cX4_step 8 = .ok (.iconst 1, 1) := by decide +kernel
theorem dX4_step_9 : decode cX4_step 9 = .ok (.bipush 40, 2) := by decide +kernel
theorem dX4_step_11 : decode cX4_step 11 = .ok (.invokestatic 47, 3) := by decide +kernel
theorem dX4_step_14 : decode cX4_step 14 = .ok (.ifCond .eq 17, 3) := by decide +kernel
theorem dX4_step_17 : decode cX4_step 17 = .ok (.iload_n 3, 1) := by decide +kernel
theorem dX4_step_18 : decode cX4_step 18 = .ok (.iconst 0, 1) := by decide +kernel
theorem dX4_step_19 : decode cX4_step 19 = .ok (.bipush 40, 2) := by decide +kernel
theorem dX4_step_21 : decode cX4_step 21 = .ok (.invokestatic 47, 3) := by decide +kernel
theorem dX4_step_24 : decode cX4_step 24 = .ok (.ifCond .eq 7, 3) := by decide +kernel
theorem dX4_step_27 : decode cX4_step 27 = .ok (.iconst 1, 1) := by decide +kernel
theorem dX4_step_28 : decode cX4_step 28 = .ok (.goto 4, 3) := by decide +kernel
theorem dX4_step_31 : decode cX4_step 31 = .ok (.iconst 0, 1) := by decide +kernel
theorem dX4_step_32 : decode cX4_step 32 = .ok (.istore 4, 2) := by decide +kernel
theorem dX4_step_34 : decode cX4_step 34 = .ok (.aload_n 0, 1) := by decide +kernel
theorem dX4_step_35 : decode cX4_step 35 = .ok (.iload 4, 2) := by decide +kernel
theorem dX4_step_37 : decode cX4_step 37 = .ok (.ifCond .ne 7, 3) := by decide +kernel
theorem dX4_step_40 : decode cX4_step 40 = .ok (.iconst 1, 1) := by decide +kernel
theorem dX4_step_41 : decode cX4_step 41 = .ok (.goto 23, 3) := by decide +kernel
theorem dX4_step_44 : decode cX4_step 44 = .ok (.aload_n 0, 1) := by decide +kernel
theorem dX4_step_45 : decode cX4_step 45 = .ok (.iload_n 1, 1) := by decide +kernel
theorem dX4_step_46 : decode cX4_step 46 = .ok (.invokevirtual 124, 3) := by decide +kernel
theorem dX4_step_49 : decode cX4_step 49 = .ok (.ifCond .ne 10, 3) := by decide +kernel
theorem dX4_step_52 : decode cX4_step 52 = .ok (.aload_n 0, 1) := by decide +kernel
theorem dX4_step_53 : decode cX4_step 53 = .ok (.getfield 69, 3) := by decide +kernel
theorem dX4_step_56 : decode cX4_step 56 = .ok (.ifCond .ne 7, 3) := by decide +kernel
theorem dX4_step_59 : decode cX4_step 59 = .ok (.iconst 2, 1) := by decide +kernel
theorem dX4_step_60 : decode cX4_step 60 = .ok (.goto 4, 3) := by decide +kernel
theorem dX4_step_63 : decode cX4_step 63 = .ok (.iconst 0, 1) := by decide +kernel
theorem dX4_step_64 : decode cX4_step 64 = .ok (.invokevirtual 58, 3) := by decide +kernel
theorem dX4_step_67 : decode cX4_step 67 = .ok (.ifCond .eq 5, 3) := by decide +kernel
theorem dX4_step_70 : decode cX4_step 70 = .ok (.iconst 0, 1) := by decide +kernel
theorem dX4_step_71 : decode cX4_step 71 = .ok (.ireturn, 1) := by decide +kernel
theorem dX4_step_72 : decode cX4_step 72 = .ok (.aload_n 0, 1) := by decide +kernel
theorem dX4_step_73 : decode cX4_step 73 = .ok (.getfield 69, 3) := by decide +kernel
theorem dX4_step_76 : decode cX4_step 76 = .ok (.iconst 3, 1) := by decide +kernel
theorem dX4_step_77 : decode cX4_step 77 = .ok (.if_icmp .ne 7, 3) := by decide +kernel
theorem dX4_step_80 : decode cX4_step 80 = .ok (.iconst 1, 1) := by decide +kernel
theorem dX4_step_81 : decode cX4_step 81 = .ok (.goto 4, 3) := by decide +kernel
theorem dX4_step_84 : decode cX4_step 84 = .ok (.iconst 0, 1) := by decide +kernel
theorem dX4_step_85 : decode cX4_step 85 = .ok (.istore 5, 2) := by decide +kernel
theorem dX4_step_87 : decode cX4_step 87 = .ok (.aload_n 0, 1) := by decide +kernel
theorem dX4_step_88 : decode cX4_step 88 = .ok (.getfield 66, 3) := by decide +kernel
theorem dX4_step_91 : decode cX4_step 91 = .ok (.iconst 1, 1) := by decide +kernel
theorem dX4_step_92 : decode cX4_step 92 = .ok (.iadd, 1) := by decide +kernel
theorem dX4_step_93 : decode cX4_step 93 = .ok (.istore 6, 2) := by decide +kernel
theorem dX4_step_95 : decode cX4_step 95 = .ok (.iconst 0, 1) := by decide +kernel
theorem dX4_step_96 : decode cX4_step 96 = .ok (.istore 7, 2) := by decide +kernel
theorem dX4_step_98 : decode cX4_step 98 = .ok (.iconst 1, 1) := by decide +kernel
theorem dX4_step_99 : decode cX4_step 99 = .ok (.istore 8, 2) := by decide +kernel
theorem dX4_step_101 : decode cX4_step 101 = .ok (.iconst 0, 1) := by decide +kernel
theorem dX4_step_102 : decode cX4_step 102 = .ok (.istore 9, 2) := by decide +kernel
theorem dX4_step_104 : decode cX4_step 104 = .ok (.aload_n 0, 1) := by decide +kernel
theorem dX4_step_105 : decode cX4_step 105 = .ok (.getfield 93, 3) := by decide +kernel
theorem dX4_step_108 : decode cX4_step 108 = .ok (.istore 10, 2) := by decide +kernel
theorem dX4_step_110 : decode cX4_step 110 = .ok (.iconst 0, 1) := by decide +kernel
theorem dX4_step_111 : decode cX4_step 111 = .ok (.istore 11, 2) := by decide +kernel
theorem dX4_step_113 : decode cX4_step 113 = .ok (.iload 11, 2) := by decide +kernel
theorem dX4_step_115 : decode cX4_step 115 = .ok (.iload_n 2, 1) := by decide +kernel
theorem dX4_step_116 : decode cX4_step 116 = .ok (.if_icmp .ge 253, 3) := by decide +kernel
theorem dX4_step_119 : decode cX4_step 119 = .ok (.iload 8, 2) := by decide +kernel
theorem dX4_step_121 : decode cX4_step 121 = .ok (.ifCond .eq 248, 3) := by decide +kernel
theorem dX4_step_124 : decode cX4_step 124 = .ok (.iload 5, 2) := by decide +kernel
theorem dX4_step_126 : decode cX4_step 126 = .ok (.ifCond .eq 11, 3) := by decide +kernel
theorem dX4_step_129 : decode cX4_step 129 = .ok (.iload 10, 2) := by decide +kernel
theorem dX4_step_131 : decode cX4_step 131 = .ok (.ifCond .le 238, 3) := by decide +kernel
theorem dX4_step_134 : decode cX4_step 134 = .ok (.goto 10, 3) := by decide +kernel
theorem dX4_step_137 : decode cX4_step 137 = .ok (.iload 10, 2) := by decide +kernel
theorem dX4_step_139 : decode cX4_step 139 = .ok (.bipush 40, 2) := by decide +kernel
theorem dX4_step_141 : decode cX4_step 141 = .ok (.if_icmp .ge 228, 3) := by decide +kernel
theorem dX4_step_144 : decode cX4_step 144 = .ok (.iload 5, 2) := by decide +kernel
theorem dX4_step_146 : decode cX4_step 146 = .ok (.ifCond .eq 10, 3) := by decide +kernel
theorem dX4_step_149 : decode cX4_step 149 = .ok (.iload 10, 2) := by decide +kernel
theorem dX4_step_151 : decode cX4_step 151 = .ok (.iconst 1, 1) := by decide +kernel
theorem dX4_step_152 : decode cX4_step 152 = .ok (.isub, 1) := by decide +kernel
theorem dX4_step_153 : decode cX4_step 153 = .ok (.goto 5, 3) := by decide +kernel
theorem dX4_step_156 : decode cX4_step 156 = .ok (.iload 10, 2) := by decide +kernel
theorem dX4_step_158 : decode cX4_step 158 = .ok (.istore 12, 2) := by decide +kernel
theorem dX4_step_160 : decode cX4_step 160 = .ok (.aload_n 0, 1) := by decide +kernel
theorem dX4_step_161 : decode cX4_step 161 = .ok (.getfield 22, 3) := by decide +kernel
theorem dX4_step_164 : decode cX4_step 164 = .ok (.iload 12, 2) := by decide +kernel
theorem dX4_step_166 : decode cX4_step 166 = .ok (.iaload, 1) := by decide +kernel
theorem dX4_step_167 : decode cX4_step 167 = .ok (.iconst (-1), 1) := by decide +kernel
theorem dX4_step_168 : decode cX4_step 168 = .ok (.if_icmp .eq 29, 3) := by decide +kernel
theorem dX4_step_171 : decode cX4_step 171 = .ok (.aload_n 0, 1) := by decide +kernel
theorem dX4_step_172 : decode cX4_step 172 = .ok (.getfield 22, 3) := by decide +kernel
theorem dX4_step_175 : decode cX4_step 175 = .ok (.iload 12, 2) := by decide +kernel
theorem dX4_step_177 : decode cX4_step 177 = .ok (.iaload, 1) := by decide +kernel
theorem dX4_step_178 : decode cX4_step 178 = .ok (.iload 6, 2) := by decide +kernel
theorem dX4_step_180 : decode cX4_step 180 = .ok (.if_icmp .lt 7, 3) := by decide +kernel
theorem dX4_step_183 : decode cX4_step 183 = .ok (.iconst 1, 1) := by decide +kernel
theorem dX4_step_184 : decode cX4_step 184 = .ok (.goto 4, 3) := by decide +kernel
theorem dX4_step_187 : decode cX4_step 187 = .ok (.iconst 0, 1) := by decide +kernel
theorem dX4_step_188 : decode cX4_step 188 = .ok (.iload 5, 2) := by decide +kernel
theorem dX4_step_190 : decode cX4_step 190 = .ok (.if_icmp .ne 7, 3) := by decide +kernel
theorem dX4_step_193 : decode cX4_step 193 = .ok (.iconst 1, 1) := by decide +kernel
theorem dX4_step_194 : decode cX4_step 194 = .ok (.goto 4, 3) := by decide +kernel
theorem dX4_step_197 : decode cX4_step 197 = .ok (.iconst 0, 1) := by decide +kernel
theorem dX4_step_198 : decode cX4_step 198 = .ok (.istore 13, 2) := by decide +kernel
theorem dX4_step_200 : decode cX4_step 200 = .ok (.iload 13, 2) := by decide +kernel
theorem dX4_step_202 : decode cX4_step 202 = .ok (.ifCond .eq 39, 3) := by decide +kernel
theorem dX4_step_205 : decode cX4_step 205 = .ok (.aload_n 0, 1) := by decide +kernel
theorem dX4_step_206 : decode cX4_step 206 = .ok (.iload 12, 2) := by decide +kernel
theorem dX4_step_208 : decode cX4_step 208 = .ok (.invokevirtual 100, 3) := by decide +kernel
theorem dX4_step_211 : decode cX4_step 211 = .ok (.aload_n 0, 1) := by decide +kernel
theorem dX4_step_212 : decode cX4_step 212 = .ok (.iload 6, 2) := by decide +kernel
theorem dX4_step_214 : decode cX4_step 214 = .ok (.iload 5, 2) := by decide +kernel
theorem dX4_step_216 : decode cX4_step 216 = .ok (.invokevirtual 104, 3) := by decide +kernel
theorem dX4_step_219 : decode cX4_step 219 = .ok (.ifCond .ne 7, 3) := by decide +kernel
theorem dX4_step_222 : decode cX4_step 222 = .ok (.iconst 1, 1) := by decide +kernel
theorem dX4_step_223 : decode cX4_step 223 = .ok (.goto 4, 3) := by decide +kernel
theorem dX4_step_226 : decode cX4_step 226 = .ok (.iconst 0, 1) := by decide +kernel
theorem dX4_step_227 : decode cX4_step 227 = .ok (.istore 9, 2) := by decide +kernel
theorem dX4_step_229 : decode cX4_step 229 = .ok (.iload 9, 2) := by decide +kernel
theorem dX4_step_231 : decode cX4_step 231 = .ok (.ifCond .ne 7, 3) := by decide +kernel
theorem dX4_step_234 : decode cX4_step 234 = .ok (.iconst 1, 1) := by decide +kernel
theorem dX4_step_235 : decode cX4_step 235 = .ok (.goto 4, 3) := by decide +kernel
theorem dX4_step_238 : decode cX4_step 238 = .ok (.iconst 0, 1) := by decide +kernel
theorem dX4_step_239 : decode cX4_step 239 = .ok (.istore 8, 2) := by decide +kernel
theorem dX4_step_241 : decode cX4_step 241 = .ok (.iload 13, 2) := by decide +kernel
theorem dX4_step_243 : decode cX4_step 243 = .ok (.ifCond .eq 96, 3) := by decide +kernel
theorem dX4_step_246 : decode cX4_step 246 = .ok (.iload 8, 2) := by decide +kernel
theorem dX4_step_248 : decode cX4_step 248 = .ok (.ifCond .eq 91, 3) := by decide +kernel
theorem dX4_step_251 : decode cX4_step 251 = .ok (.iconst 0, 1) := by decide +kernel
theorem dX4_step_252 : decode cX4_step 252 = .ok (.istore 14, 2) := by decide +kernel
theorem dX4_step_254 : decode cX4_step 254 = .ok (.iload 14, 2) := by decide +kernel
theorem dX4_step_256 : decode cX4_step 256 = .ok (.iconst 3, 1) := by decide +kernel
theorem dX4_step_257 : decode cX4_step 257 = .ok (.if_icmp .ge 29, 3) := by decide +kernel
theorem dX4_step_260 : decode cX4_step 260 = .ok (.aload_n 0, 1) := by decide +kernel
theorem dX4_step_261 : decode cX4_step 261 = .ok (.getfield 25, 3) := by decide +kernel
theorem dX4_step_264 : decode cX4_step 264 = .ok (.iconst 3, 1) := by decide +kernel
theorem dX4_step_265 : decode cX4_step 265 = .ok (.iload 12, 2) := by decide +kernel
theorem dX4_step_267 : decode cX4_step 267 = .ok (.imul, 1) := by decide +kernel
theorem dX4_step_268 : decode cX4_step 268 = .ok (.iload 14, 2) := by decide +kernel
theorem dX4_step_270 : decode cX4_step 270 = .ok (.iadd, 1) := by decide +kernel
theorem dX4_step_271 : decode cX4_step 271 = .ok (.aload_n 0, 1) := by decide +kernel
theorem dX4_step_272 : decode cX4_step 272 = .ok (.getfield 28, 3) := by decide +kernel
theorem dX4_step_275 : decode cX4_step 275 = .ok (.iload 14, 2) := by decide +kernel
theorem dX4_step_277 : decode cX4_step 277 = .ok (.laload, 1) := by decide +kernel
theorem dX4_step_278 : decode cX4_step 278 = .ok (.l2i, 1) := by decide +kernel
theorem dX4_step_279 : decode cX4_step 279 = .ok (.iastore, 1) := by decide +kernel
theorem dX4_step_280 : decode cX4_step 280 = .ok (.iinc 14 1, 3) := by decide +kernel
theorem dX4_step_283 : decode cX4_step 283 = .ok (.goto (-29), 3) := by decide +kernel
theorem dX4_step_286 : decode cX4_step 286 = .ok (.aload_n 0, 1) := by decide +kernel
theorem dX4_step_287 : decode cX4_step 287 = .ok (.getfield 22, 3) := by decide +kernel
theorem dX4_step_290 : decode cX4_step 290 = .ok (.iload 12, 2) := by decide +kernel
theorem dX4_step_292 : decode cX4_step 292 = .ok (.dup2, 1) := by decide +kernel
theorem dX4_step_293 : decode cX4_step 293 = .ok (.iaload, 1) := by decide +kernel
theorem dX4_step_294 : decode cX4_step 294 = .ok (.iload 5, 2) := by decide +kernel
theorem dX4_step_296 : decode cX4_step 296 = .ok (.ifCond .eq 7, 3) := by decide +kernel
theorem dX4_step_299 : decode cX4_step 299 = .ok (.iconst (-1), 1) := by decide +kernel
theorem dX4_step_300 : decode cX4_step 300 = .ok (.goto 4, 3) := by decide +kernel
theorem dX4_step_303 : decode cX4_step 303 = .ok (.iconst 1, 1) := by decide +kernel
theorem dX4_step_304 : decode cX4_step 304 = .ok (.iadd, 1) := by decide +kernel
theorem dX4_step_305 : decode cX4_step 305 = .ok (.iastore, 1) := by decide +kernel
theorem dX4_step_306 : decode cX4_step 306 = .ok (.iinc 7 1, 3) := by decide +kernel
theorem dX4_step_309 : decode cX4_step 309 = .ok (.aload_n 0, 1) := by decide +kernel
theorem dX4_step_310 : decode cX4_step 310 = .ok (.getfield 36, 3) := by decide +kernel
theorem dX4_step_313 : decode cX4_step 313 = .ok (.iload_n 1, 1) := by decide +kernel
theorem dX4_step_314 : decode cX4_step 314 = .ok (.iload 7, 2) := by decide +kernel
theorem dX4_step_316 : decode cX4_step 316 = .ok (.iload_n 3, 1) := by decide +kernel
theorem dX4_step_317 : decode cX4_step 317 = .ok (.if_icmp .ne 7, 3) := by decide +kernel
theorem dX4_step_320 : decode cX4_step 320 = .ok (.iconst 1, 1) := by decide +kernel
theorem dX4_step_321 : decode cX4_step 321 = .ok (.goto 4, 3) := by decide +kernel
theorem dX4_step_324 : decode cX4_step 324 = .ok (.iconst 0, 1) := by decide +kernel
theorem dX4_step_325 : decode cX4_step 325 = .ok (.bastore, 1) := by decide +kernel
theorem dX4_step_326 : decode cX4_step 326 = .ok (.iload 7, 2) := by decide +kernel
theorem dX4_step_328 : decode cX4_step 328 = .ok (.iload_n 3, 1) := by decide +kernel
theorem dX4_step_329 : decode cX4_step 329 = .ok (.if_icmp .eq 7, 3) := by decide +kernel
theorem dX4_step_332 : decode cX4_step 332 = .ok (.iconst 1, 1) := by decide +kernel
theorem dX4_step_333 : decode cX4_step 333 = .ok (.goto 4, 3) := by decide +kernel
theorem dX4_step_336 : decode cX4_step 336 = .ok (.iconst 0, 1) := by decide +kernel
theorem dX4_step_337 : decode cX4_step 337 = .ok (.istore 8, 2) := by decide +kernel
theorem dX4_step_339 : decode cX4_step 339 = .ok (.iload 10, 2) := by decide +kernel
theorem dX4_step_341 : decode cX4_step 341 = .ok (.iload 8, 2) := by decide +kernel
theorem dX4_step_343 : decode cX4_step 343 = .ok (.ifCond .ne 7, 3) := by decide +kernel
theorem dX4_step_346 : decode cX4_step 346 = .ok (.iconst 0, 1) := by decide +kernel
theorem dX4_step_347 : decode cX4_step 347 = .ok (.goto 13, 3) := by decide +kernel
theorem dX4_step_350 : decode cX4_step 350 = .ok (.iload 5, 2) := by decide +kernel
theorem dX4_step_352 : decode cX4_step 352 = .ok (.ifCond .eq 7, 3) := by decide +kernel
theorem dX4_step_355 : decode cX4_step 355 = .ok (.iconst (-1), 1) := by decide +kernel
theorem dX4_step_356 : decode cX4_step 356 = .ok (.goto 4, 3) := by decide +kernel
theorem dX4_step_359 : decode cX4_step 359 = .ok (.iconst 1, 1) := by decide +kernel
theorem dX4_step_360 : decode cX4_step 360 = .ok (.iadd, 1) := by decide +kernel
theorem dX4_step_361 : decode cX4_step 361 = .ok (.istore 10, 2) := by decide +kernel
theorem dX4_step_363 : decode cX4_step 363 = .ok (.iinc 11 1, 3) := by decide +kernel
theorem dX4_step_366 : decode cX4_step 366 = .ok (.goto (-253), 3) := by decide +kernel
theorem dX4_step_369 : decode cX4_step 369 = .ok (.aload_n 0, 1) := by decide +kernel
theorem dX4_step_370 : decode cX4_step 370 = .ok (.getfield 36, 3) := by decide +kernel
theorem dX4_step_373 : decode cX4_step 373 = .ok (.iload_n 1, 1) := by decide +kernel
theorem dX4_step_374 : decode cX4_step 374 = .ok (.baload, 1) := by decide +kernel
theorem dX4_step_375 : decode cX4_step 375 = .ok (.ifCond .ne 58, 3) := by decide +kernel
theorem dX4_step_378 : decode cX4_step 378 = .ok (.aload_n 0, 1) := by decide +kernel
theorem dX4_step_379 : decode cX4_step 379 = .ok (.iload 10, 2) := by decide +kernel
theorem dX4_step_381 : decode cX4_step 381 = .ok (.putfield 93, 3) := by decide +kernel
theorem dX4_step_384 : decode cX4_step 384 = .ok (.iload 5, 2) := by decide +kernel
theorem dX4_step_386 : decode cX4_step 386 = .ok (.ifCond .ne 30, 3) := by decide +kernel
theorem dX4_step_389 : decode cX4_step 389 = .ok (.aload_n 0, 1) := by decide +kernel
theorem dX4_step_390 : decode cX4_step 390 = .ok (.getfield 93, 3) := by decide +kernel
theorem dX4_step_393 : decode cX4_step 393 = .ok (.bipush 40, 2) := by decide +kernel
theorem dX4_step_395 : decode cX4_step 395 = .ok (.if_icmp .ne 21, 3) := by decide +kernel
theorem dX4_step_398 : decode cX4_step 398 = .ok (.aload_n 0, 1) := by decide +kernel
theorem dX4_step_399 : decode cX4_step 399 = .ok (.dup, 1) := by decide +kernel
theorem dX4_step_400 : decode cX4_step 400 = .ok (.getfield 66, 3) := by decide +kernel
theorem dX4_step_403 : decode cX4_step 403 = .ok (.iconst 1, 1) := by decide +kernel
theorem dX4_step_404 : decode cX4_step 404 = .ok (.iadd, 1) := by decide +kernel
theorem dX4_step_405 : decode cX4_step 405 = .ok (.putfield 66, 3) := by decide +kernel
theorem dX4_step_408 : decode cX4_step 408 = .ok (.aload_n 0, 1) := by decide +kernel
theorem dX4_step_409 : decode cX4_step 409 = .ok (.iconst 0, 1) := by decide +kernel
theorem dX4_step_410 : decode cX4_step 410 = .ok (.putfield 69, 3) := by decide +kernel
theorem dX4_step_413 : decode cX4_step 413 = .ok (.goto 20, 3) := by decide +kernel
theorem dX4_step_416 : decode cX4_step 416 = .ok (.iload 5, 2) := by decide +kernel
theorem dX4_step_418 : decode cX4_step 418 = .ok (.ifCond .eq 15, 3) := by decide +kernel
theorem dX4_step_421 : decode cX4_step 421 = .ok (.aload_n 0, 1) := by decide +kernel
theorem dX4_step_422 : decode cX4_step 422 = .ok (.getfield 93, 3) := by decide +kernel
theorem dX4_step_425 : decode cX4_step 425 = .ok (.ifCond .ne 8, 3) := by decide +kernel
theorem dX4_step_428 : decode cX4_step 428 = .ok (.aload_n 0, 1) := by decide +kernel
theorem dX4_step_429 : decode cX4_step 429 = .ok (.iconst 0, 1) := by decide +kernel
theorem dX4_step_430 : decode cX4_step 430 = .ok (.putfield 69, 3) := by decide +kernel
theorem dX4_step_433 : decode cX4_step 433 = .ok (.iload 7, 2) := by decide +kernel
theorem dX4_step_435 : decode cX4_step 435 = .ok (.iload 9, 2) := by decide +kernel
theorem dX4_step_437 : decode cX4_step 437 = .ok (.ifCond .eq 8, 3) := by decide +kernel
theorem dX4_step_440 : decode cX4_step 440 = .ok (.bipush 100, 2) := by decide +kernel
theorem dX4_step_442 : decode cX4_step 442 = .ok (.goto 4, 3) := by decide +kernel
theorem dX4_step_445 : decode cX4_step 445 = .ok (.iconst 0, 1) := by decide +kernel
theorem dX4_step_446 : decode cX4_step 446 = .ok (.isub, 1) := by decide +kernel
theorem dX4_step_447 : decode cX4_step 447 = .ok (.ireturn, 1) := by decide +kernel
set_option maxRecDepth 20000 in
theorem ggX4_cursor_X4_refused : GoodIn wsX4_cursor wsX4_refused := goodIn_r _ [7, 8, 9, 10, 11, 12, 13, 14, 15, 16, 17, 18, 19, 20, 21, 22, 23, 24] (by decide +kernel) (by decide +kernel)
set_option maxRecDepth 20000 in
theorem gX4_cursor_X4_refused : GoodIn wsX4_cursor (wsV RX4 58 RX4 yX4_refused wsX4_refused) := goodIn_app (goodIn_of _ (by decide +kernel)) ggX4_cursor_X4_refused
theorem dX4_cursor_0 : decode cX4_cursor 0 = .ok (.aload_n 0, 1) := by decide +kernel
theorem dX4_cursor_1 : decode cX4_cursor 1 = .ok (.aload_n 0, 1) := by decide +kernel
theorem dX4_cursor_2 : decode cX4_cursor 2 = .ok (.getfield 69, 3) := by decide +kernel
theorem dX4_cursor_5 : decode cX4_cursor 5 = .ok (.ifCond .ne 7, 3) := by decide +kernel
theorem dX4_cursor_8 : decode cX4_cursor 8 = .ok (.iconst 1, 1) := by decide +kernel
theorem dX4_cursor_9 : decode cX4_cursor 9 = .ok (.goto 4, 3) := by decide +kernel
theorem dX4_cursor_12 : decode cX4_cursor 12 = .ok (.iconst 0, 1) := by decide +kernel
theorem dX4_cursor_13 : decode cX4_cursor 13 = .ok (.invokevirtual 58, 3) := by decide +kernel
theorem dX4_cursor_16 : decode cX4_cursor 16 = .ok (.ifCond .eq 7, 3) := by decide +kernel
theorem dX4_cursor_19 : decode cX4_cursor 19 = .ok (.iconst 0, 1) := by decide +kernel
theorem dX4_cursor_20 : decode cX4_cursor 20 = .ok (.goto 7, 3) := by decide +kernel
theorem dX4_cursor_23 : decode cX4_cursor 23 = .ok (.aload_n 0, 1) := by decide +kernel
theorem dX4_cursor_24 : decode cX4_cursor 24 = .ok (.getfield 93, 3) := by decide +kernel
theorem dX4_cursor_27 : decode cX4_cursor 27 = .ok (.ireturn, 1) := by decide +kernel
set_option maxRecDepth 20000 in
theorem ggX4_share_X4_refused : GoodIn wsX4_share wsX4_refused := goodIn_r _ [8, 9, 10, 11, 12, 13, 14, 15, 16, 17, 18, 19, 20, 21, 22, 23, 24, 25] (by decide +kernel) (by decide +kernel)
set_option maxRecDepth 20000 in
theorem gX4_share_X4_refused : GoodIn wsX4_share (wsV RX4 58 RX4 yX4_refused wsX4_refused) := goodIn_app (goodIn_of _ (by decide +kernel)) ggX4_share_X4_refused
theorem dX4_share_0 : decode cX4_share 0 = .ok (.iconst 0, 1) := by decide +kernel
theorem dX4_share_1 : decode cX4_share 1 = .ok (.istore_n 1, 1) := by decide +kernel
theorem dX4_share_2 : decode cX4_share 2 = .ok (.iconst 0, 1) := by decide +kernel
theorem dX4_share_3 : decode cX4_share 3 = .ok (.istore_n 2, 1) := by decide +kernel
theorem dX4_share_4 : decode cX4_share 4 = .ok (.iconst 0, 1) := by decide +kernel
theorem dX4_share_5 : decode cX4_share 5 = .ok (.istore_n 3, 1) := by decide +kernel
theorem dX4_share_6 : decode cX4_share 6 = .ok (.iload_n 3, 1) := by decide +kernel
theorem dX4_share_7 : decode cX4_share 7 = .ok (.bipush 40, 2) := by decide +kernel
theorem dX4_share_9 : decode cX4_share 9 = .ok (.if_icmp .ge 48, 3) := by decide +kernel
theorem dX4_share_12 : decode cX4_share 12 = .ok (.iload_n 1, 1) := by decide +kernel
theorem dX4_share_13 : decode cX4_share 13 = .ok (.aload_n 0, 1) := by decide +kernel
theorem dX4_share_14 : decode cX4_share 14 = .ok (.getfield 22, 3) := by decide +kernel
theorem dX4_share_17 : decode cX4_share 17 = .ok (.iload_n 3, 1) := by decide +kernel
theorem dX4_share_18 : decode cX4_share 18 = .ok (.iaload, 1) := by decide +kernel
theorem dX4_share_19 : decode cX4_share 19 = .ok (.iconst (-1), 1) := by decide +kernel
theorem dX4_share_20 : decode cX4_share 20 = .ok (.if_icmp .ne 7, 3) := by decide +kernel
theorem dX4_share_23 : decode cX4_share 23 = .ok (.iconst 0, 1) := by decide +kernel
theorem dX4_share_24 : decode cX4_share 24 = .ok (.goto 4, 3) := by decide +kernel
theorem dX4_share_27 : decode cX4_share 27 = .ok (.iconst 1, 1) := by decide +kernel
theorem dX4_share_28 : decode cX4_share 28 = .ok (.iadd, 1) := by decide +kernel
theorem dX4_share_29 : decode cX4_share 29 = .ok (.istore_n 1, 1) := by decide +kernel
theorem dX4_share_30 : decode cX4_share 30 = .ok (.iload_n 2, 1) := by decide +kernel
theorem dX4_share_31 : decode cX4_share 31 = .ok (.aload_n 0, 1) := by decide +kernel
theorem dX4_share_32 : decode cX4_share 32 = .ok (.getfield 22, 3) := by decide +kernel
theorem dX4_share_35 : decode cX4_share 35 = .ok (.iload_n 3, 1) := by decide +kernel
theorem dX4_share_36 : decode cX4_share 36 = .ok (.iaload, 1) := by decide +kernel
theorem dX4_share_37 : decode cX4_share 37 = .ok (.aload_n 0, 1) := by decide +kernel
theorem dX4_share_38 : decode cX4_share 38 = .ok (.getfield 66, 3) := by decide +kernel
theorem dX4_share_41 : decode cX4_share 41 = .ok (.if_icmp .le 7, 3) := by decide +kernel
theorem dX4_share_44 : decode cX4_share 44 = .ok (.iconst 1, 1) := by decide +kernel
theorem dX4_share_45 : decode cX4_share 45 = .ok (.goto 4, 3) := by decide +kernel
