theorem dL_alike_4 : decode cL_alike 4 = .ok (.aload_n 1, 1) := by decide +kernel
theorem dL_alike_5 : decode cL_alike 5 = .ok (.invokevirtual 152, 3) := by decide +kernel
theorem dL_alike_8 : decode cL_alike 8 = .ok (.if_icmp .ne 29, 3) := by decide +kernel
theorem dL_alike_11 : decode cL_alike 11 = .ok (.aload_n 0, 1) := by decide +kernel
theorem dL_alike_12 : decode cL_alike 12 = .ok (.invokevirtual 89, 3) := by decide +kernel
theorem dL_alike_15 : decode cL_alike 15 = .ok (.aload_n 1, 1) := by decide +kernel
theorem dL_alike_16 : decode cL_alike 16 = .ok (.invokevirtual 89, 3) := by decide +kernel
theorem dL_alike_19 : decode cL_alike 19 = .ok (.if_icmp .ne 18, 3) := by decide +kernel
theorem dL_alike_22 : decode cL_alike 22 = .ok (.aload_n 0, 1) := by decide +kernel
theorem dL_alike_23 : decode cL_alike 23 = .ok (.invokevirtual 155, 3) := by decide +kernel
theorem dL_alike_26 : decode cL_alike 26 = .ok (.aload_n 1, 1) := by decide +kernel
theorem dL_alike_27 : decode cL_alike 27 = .ok (.invokevirtual 155, 3) := by decide +kernel
theorem dL_alike_30 : decode cL_alike 30 = .ok (.if_icmp .ne 7, 3) := by decide +kernel
theorem dL_alike_33 : decode cL_alike 33 = .ok (.iconst 1, 1) := by decide +kernel
theorem dL_alike_34 : decode cL_alike 34 = .ok (.goto 4, 3) := by decide +kernel
theorem dL_alike_37 : decode cL_alike 37 = .ok (.iconst 0, 1) := by decide +kernel
theorem dL_alike_38 : decode cL_alike 38 = .ok (.istore_n 2, 1) := by decide +kernel
theorem dL_alike_39 : decode cL_alike 39 = .ok (.iconst 0, 1) := by decide +kernel
theorem dL_alike_40 : decode cL_alike 40 = .ok (.istore_n 3, 1) := by decide +kernel
theorem dL_alike_41 : decode cL_alike 41 = .ok (.iload_n 3, 1) := by decide +kernel
theorem dL_alike_42 : decode cL_alike 42 = .ok (.bipush 40, 2) := by decide +kernel
theorem dL_alike_44 : decode cL_alike 44 = .ok (.if_icmp .ge 77, 3) := by decide +kernel
theorem dL_alike_47 : decode cL_alike 47 = .ok (.iload_n 2, 1) := by decide +kernel
theorem dL_alike_48 : decode cL_alike 48 = .ok (.ifCond .eq 73, 3) := by decide +kernel
theorem dL_alike_51 : decode cL_alike 51 = .ok (.aload_n 0, 1) := by decide +kernel
theorem dL_alike_52 : decode cL_alike 52 = .ok (.iload_n 3, 1) := by decide +kernel
theorem dL_alike_53 : decode cL_alike 53 = .ok (.invokestatic 122, 3) := by decide +kernel
theorem dL_alike_56 : decode cL_alike 56 = .ok (.aload_n 1, 1) := by decide +kernel
theorem dL_alike_57 : decode cL_alike 57 = .ok (.iload_n 3, 1) := by decide +kernel
theorem dL_alike_58 : decode cL_alike 58 = .ok (.invokestatic 122, 3) := by decide +kernel
theorem dL_alike_61 : decode cL_alike 61 = .ok (.if_icmp .ne 52, 3) := by decide +kernel
theorem dL_alike_64 : decode cL_alike 64 = .ok (.aload_n 0, 1) := by decide +kernel
theorem dL_alike_65 : decode cL_alike 65 = .ok (.iload_n 3, 1) := by decide +kernel
theorem dL_alike_66 : decode cL_alike 66 = .ok (.iconst 0, 1) := by decide +kernel
theorem dL_alike_67 : decode cL_alike 67 = .ok (.invokestatic 119, 3) := by decide +kernel
theorem dL_alike_70 : decode cL_alike 70 = .ok (.aload_n 1, 1) := by decide +kernel
theorem dL_alike_71 : decode cL_alike 71 = .ok (.iload_n 3, 1) := by decide +kernel
theorem dL_alike_72 : decode cL_alike 72 = .ok (.iconst 0, 1) := by decide +kernel
theorem dL_alike_73 : decode cL_alike 73 = .ok (.invokestatic 119, 3) := by decide +kernel
theorem dL_alike_76 : decode cL_alike 76 = .ok (.if_icmp .ne 37, 3) := by decide +kernel
theorem dL_alike_79 : decode cL_alike 79 = .ok (.aload_n 0, 1) := by decide +kernel
theorem dL_alike_80 : decode cL_alike 80 = .ok (.iload_n 3, 1) := by decide +kernel
theorem dL_alike_81 : decode cL_alike 81 = .ok (.iconst 1, 1) := by decide +kernel
theorem dL_alike_82 : decode cL_alike 82 = .ok (.invokestatic 119, 3) := by decide +kernel
theorem dL_alike_85 : decode cL_alike 85 = .ok (.aload_n 1, 1) := by decide +kernel
theorem dL_alike_86 : decode cL_alike 86 = .ok (.iload_n 3, 1) := by decide +kernel
theorem dL_alike_87 : decode cL_alike 87 = .ok (.iconst 1, 1) := by decide +kernel
theorem dL_alike_88 : decode cL_alike 88 = .ok (.invokestatic 119, 3) := by decide +kernel
theorem dL_alike_91 : decode cL_alike 91 = .ok (.if_icmp .ne 22, 3) := by decide +kernel
theorem dL_alike_94 : decode cL_alike 94 = .ok (.aload_n 0, 1) := by decide +kernel
theorem dL_alike_95 : decode cL_alike 95 = .ok (.iload_n 3, 1) := by decide +kernel
theorem dL_alike_96 : decode cL_alike 96 = .ok (.iconst 2, 1) := by decide +kernel
theorem dL_alike_97 : decode cL_alike 97 = .ok (.invokestatic 119, 3) := by decide +kernel
theorem dL_alike_100 : decode cL_alike 100 = .ok (.aload_n 1, 1) := by decide +kernel
theorem dL_alike_101 : decode cL_alike 101 = .ok (.iload_n 3, 1) := by decide +kernel
theorem dL_alike_102 : decode cL_alike 102 = .ok (.iconst 2, 1) := by decide +kernel
theorem dL_alike_103 : decode cL_alike 103 = .ok (.invokestatic 119, 3) := by decide +kernel
theorem dL_alike_106 : decode cL_alike 106 = .ok (.if_icmp .ne 7, 3) := by decide +kernel
theorem dL_alike_109 : decode cL_alike 109 = .ok (.iconst 1, 1) := by decide +kernel
theorem dL_alike_110 : decode cL_alike 110 = .ok (.goto 4, 3) := by decide +kernel
theorem dL_alike_113 : decode cL_alike 113 = .ok (.iconst 0, 1) := by decide +kernel
theorem dL_alike_114 : decode cL_alike 114 = .ok (.istore_n 2, 1) := by decide +kernel
theorem dL_alike_115 : decode cL_alike 115 = .ok (.iinc 3 1, 3) := by decide +kernel
theorem dL_alike_118 : decode cL_alike 118 = .ok (.goto (-77), 3) := by decide +kernel
theorem dL_alike_121 : decode cL_alike 121 = .ok (.iload_n 2, 1) := by decide +kernel
theorem dL_alike_122 : decode cL_alike 122 = .ok (.ireturn, 1) := by decide +kernel
set_option maxRecDepth 20000 in
theorem ggL_comes_L_cursor : GoodIn wsL_comes wsL_cursor := goodIn_ca (goodIn_r _ [7, 8, 1, 9, 10, 11, 12, 13, 14, 15, 16, 17, 18, 19, 20, 21, 22, 23, 24, 25, 196, 197, 198, 199, 200, 201, 202] (by decide +kernel) (by decide +kernel)) (goodIn_sub (fun _ h => List.mem_cons_of_mem _ (List.mem_append_left _ (List.mem_append_right _ h))) (by decide +kernel))
set_option maxRecDepth 20000 in
theorem gL_comes_L_cursor : GoodIn wsL_comes (va_wsS RL 158 yL_cursor wsL_cursor) := goodIn_app (goodIn_of _ (by decide +kernel)) ggL_comes_L_cursor
set_option maxRecDepth 20000 in
theorem ggL_comes_X3_holder : GoodIn wsL_comes wsX3_holder := goodIn_r _ [29, 30, 31, 32, 33, 34, 35, 36, 37, 38, 196, 197, 198, 199, 200, 201, 202, 203, 204, 205, 206] (by decide +kernel) (by decide +kernel)
set_option maxRecDepth 20000 in
theorem gL_comes_X3_holder : GoodIn wsL_comes (wsV RL 149 RX3 yX3_holder wsX3_holder) := goodIn_app (goodIn_of _ (by decide +kernel)) ggL_comes_X3_holder
set_option maxRecDepth 20000 in
theorem ggL_comes_L_restarts : GoodIn wsL_comes wsL_restarts := goodIn_ca (goodIn_ca (goodIn_r _ [41, 42, 8, 43, 1, 44, 45, 46, 12, 47, 19, 20, 30, 48, 49, 50, 51, 52, 53, 54, 55, 34, 56, 57, 58, 59, 60, 61, 31, 32, 33, 35, 36, 37, 38, 196, 197, 198, 199, 200, 201, 202, 203, 204, 205, 206] (by decide +kernel) (by decide +kernel)) (goodIn_sub (fun _ h => List.mem_cons_of_mem _ (List.mem_append_left _ (List.mem_append_right _ h))) (by decide +kernel))) (goodIn_sub (fun _ h => List.mem_cons_of_mem _ (List.mem_append_right _ h)) (by decide +kernel))
set_option maxRecDepth 20000 in
theorem gL_comes_L_restarts : GoodIn wsL_comes (va_wsS RL 134 yL_restarts wsL_restarts) := goodIn_app (goodIn_of _ (by decide +kernel)) ggL_comes_L_restarts
set_option maxRecDepth 20000 in
theorem ggL_comes_L_takes : GoodIn wsL_comes wsL_takes := goodIn_ca (goodIn_ca (goodIn_r _ [64, 42, 8, 43, 1, 65, 66, 67, 12, 68, 51, 52, 19, 20, 30, 48, 49, 50, 69, 70, 71, 72, 53, 54, 55, 34, 56, 57, 31, 32, 33, 35, 36, 37, 38, 73, 74, 75, 76, 196, 197, 198, 199, 200, 201, 202, 203, 204, 205, 206] (by decide +kernel) (by decide +kernel)) (goodIn_sub (fun _ h => List.mem_cons_of_mem _ (List.mem_append_right _ h)) (by decide +kernel))) (goodIn_sub (fun _ h => List.mem_cons_of_mem _ (List.mem_append_left _ (List.mem_append_right _ h))) (by decide +kernel))
set_option maxRecDepth 20000 in
theorem gL_comes_L_takes : GoodIn wsL_comes (va_wsS RL 128 yL_takes wsL_takes) := goodIn_app (goodIn_of _ (by decide +kernel)) ggL_comes_L_takes
set_option maxRecDepth 20000 in
theorem ggL_comes_L_steps : GoodIn wsL_comes wsL_steps := goodIn_ca (goodIn_ca (goodIn_r _ [79, 42, 8, 43, 1, 80, 81, 82, 12, 83, 51, 52, 84, 85, 86, 87, 48, 49, 50, 88, 89, 90, 91, 19, 20, 30, 69, 70, 71, 72, 53, 54, 55, 34, 56, 57, 31, 32, 33, 35, 36, 37, 38, 15, 16, 17, 18, 21, 22, 23, 24, 25, 92, 93, 94, 95, 14, 96, 97, 98, 99, 100, 101, 102, 103, 104, 105, 106, 107, 108, 109, 110, 111, 112, 113, 114, 115, 116, 117, 118, 119, 120, 121, 122, 123, 124, 125, 126, 127, 128, 129, 130, 131, 132, 133, 134, 135, 136, 137, 138, 139, 140, 141, 142, 143, 144, 145, 146, 147, 148, 149, 150, 151, 152, 153, 154, 155, 156, 157, 158, 159, 160, 161, 162, 163, 164, 165, 166, 167, 168, 169, 170, 171, 172, 173, 174, 175, 176, 177, 178, 179, 180, 58, 59, 60, 61, 181, 182, 183, 184, 196, 197, 198, 199, 200, 201, 202, 203, 204, 205, 206, 207, 208, 209, 210, 211, 212, 213] (by decide +kernel) (by decide +kernel)) (goodIn_sub (fun _ h => List.mem_cons_of_mem _ (List.mem_append_right _ h)) (by decide +kernel))) (goodIn_sub (fun _ h => List.mem_cons_of_mem _ (List.mem_append_left _ (List.mem_append_right _ h))) (by decide +kernel))
set_option maxRecDepth 20000 in
theorem gL_comes_L_steps : GoodIn wsL_comes (va_wsS RL 146 yL_steps wsL_steps) := goodIn_app (goodIn_of _ (by decide +kernel)) ggL_comes_L_steps
set_option maxRecDepth 20000 in
theorem ggL_comes_L_passes : GoodIn wsL_comes wsL_passes := goodIn_ca (goodIn_r _ [187, 42, 43, 188, 189, 190, 12, 191, 51, 52, 30, 192, 193, 194, 34, 195, 36, 196, 197, 198, 199, 200, 201, 202, 203, 204, 205, 206] (by decide +kernel) (by decide +kernel)) (goodIn_sub (fun _ h => List.mem_cons_of_mem _ (List.mem_append_right _ h)) (by decide +kernel))
set_option maxRecDepth 20000 in
theorem gL_comes_L_passes : GoodIn wsL_comes (va_wsS RL 137 yL_passes wsL_passes) := goodIn_app (goodIn_of _ (by decide +kernel)) ggL_comes_L_passes
theorem dL_comes_0 : decode cL_comes 0 = .ok (.iconst 0, 1) := by decide +kernel
theorem dL_comes_1 : decode cL_comes 1 = .ok (.istore_n 3, 1) := by decide +kernel
theorem dL_comes_2 : decode cL_comes 2 = .ok (.iload_n 1, 1) := by decide +kernel
theorem dL_comes_3 : decode cL_comes 3 = .ok (.istore 4, 2) := by decide +kernel
theorem dL_comes_5 : decode cL_comes 5 = .ok (.aload_n 0, 1) := by decide +kernel
theorem dL_comes_6 : decode cL_comes 6 = .ok (.invokestatic 158, 3) := by decide +kernel
theorem dL_comes_9 : decode cL_comes 9 = .ok (.istore 5, 2) := by decide +kernel
theorem dL_comes_11 : decode cL_comes 11 = .ok (.iconst 0, 1) := by decide +kernel
theorem dL_comes_12 : decode cL_comes 12 = .ok (.istore 6, 2) := by decide +kernel
theorem dL_comes_14 : decode cL_comes 14 = .ok (.iload 6, 2) := by decide +kernel
theorem dL_comes_16 : decode cL_comes 16 = .ok (.sipush 300, 3) := by decide +kernel
theorem dL_comes_19 : decode cL_comes 19 = .ok (.if_icmp .ge 264, 3) := by decide +kernel
theorem dL_comes_22 : decode cL_comes 22 = .ok (.aload_n 0, 1) := by decide +kernel
theorem dL_comes_23 : decode cL_comes 23 = .ok (.invokestatic 158, 3) := by decide +kernel
theorem dL_comes_26 : decode cL_comes 26 = .ok (.ldc 18, 2) := by decide +kernel
theorem dL_comes_28 : decode cL_comes 28 = .ok (.if_icmp .ne 5, 3) := by decide +kernel
theorem dL_comes_31 : decode cL_comes 31 = .ok (.iload_n 3, 1) := by decide +kernel
theorem dL_comes_32 : decode cL_comes 32 = .ok (.ireturn, 1) := by decide +kernel
theorem dL_comes_33 : decode cL_comes 33 = .ok (.iload 4, 2) := by decide +kernel
theorem dL_comes_35 : decode cL_comes 35 = .ok (.sipush 1103, 3) := by decide +kernel
theorem dL_comes_38 : decode cL_comes 38 = .ok (.imul, 1) := by decide +kernel
theorem dL_comes_39 : decode cL_comes 39 = .ok (.sipush 12345, 3) := by decide +kernel
theorem dL_comes_42 : decode cL_comes 42 = .ok (.iadd, 1) := by decide +kernel
theorem dL_comes_43 : decode cL_comes 43 = .ok (.ldc 88, 2) := by decide +kernel
theorem dL_comes_45 : decode cL_comes 45 = .ok (.iand, 1) := by decide +kernel
theorem dL_comes_46 : decode cL_comes 46 = .ok (.istore 4, 2) := by decide +kernel
theorem dL_comes_48 : decode cL_comes 48 = .ok (.aload_n 0, 1) := by decide +kernel
theorem dL_comes_49 : decode cL_comes 49 = .ok (.invokevirtual 149, 3) := by decide +kernel
theorem dL_comes_52 : decode cL_comes 52 = .ok (.istore 7, 2) := by decide +kernel
theorem dL_comes_54 : decode cL_comes 54 = .ok (.iload 7, 2) := by decide +kernel
theorem dL_comes_56 : decode cL_comes 56 = .ok (.ifCond .ge 36, 3) := by decide +kernel
theorem dL_comes_59 : decode cL_comes 59 = .ok (.iload 4, 2) := by decide +kernel
theorem dL_comes_61 : decode cL_comes 61 = .ok (.bipush 16, 2) := by decide +kernel
theorem dL_comes_63 : decode cL_comes 63 = .ok (.idiv, 1) := by decide +kernel
theorem dL_comes_64 : decode cL_comes 64 = .ok (.iconst 4, 1) := by decide +kernel
theorem dL_comes_65 : decode cL_comes 65 = .ok (.irem, 1) := by decide +kernel
theorem dL_comes_66 : decode cL_comes 66 = .ok (.istore 7, 2) := by decide +kernel
theorem dL_comes_68 : decode cL_comes 68 = .ok (.aload_n 0, 1) := by decide +kernel
theorem dL_comes_69 : decode cL_comes 69 = .ok (.iload 7, 2) := by decide +kernel
theorem dL_comes_71 : decode cL_comes 71 = .ok (.invokestatic 134, 3) := by decide +kernel
theorem dL_comes_74 : decode cL_comes 74 = .ok (.pop, 1) := by decide +kernel
theorem dL_comes_75 : decode cL_comes 75 = .ok (.aload_n 0, 1) := by decide +kernel
theorem dL_comes_76 : decode cL_comes 76 = .ok (.iload 7, 2) := by decide +kernel
theorem dL_comes_78 : decode cL_comes 78 = .ok (.iconst 1, 1) := by decide +kernel
theorem dL_comes_79 : decode cL_comes 79 = .ok (.iload 4, 2) := by decide +kernel
theorem dL_comes_81 : decode cL_comes 81 = .ok (.bipush 64, 2) := by decide +kernel
theorem dL_comes_83 : decode cL_comes 83 = .ok (.idiv, 1) := by decide +kernel
theorem dL_comes_84 : decode cL_comes 84 = .ok (.bipush 9, 2) := by decide +kernel
theorem dL_comes_86 : decode cL_comes 86 = .ok (.irem, 1) := by decide +kernel
theorem dL_comes_87 : decode cL_comes 87 = .ok (.iadd, 1) := by decide +kernel
theorem dL_comes_88 : decode cL_comes 88 = .ok (.invokestatic 128, 3) := by decide +kernel
theorem dL_comes_91 : decode cL_comes 91 = .ok (.pop, 1) := by decide +kernel
theorem dL_comes_92 : decode cL_comes 92 = .ok (.iconst 1, 1) := by decide +kernel
theorem dL_comes_93 : decode cL_comes 93 = .ok (.iload 4, 2) := by decide +kernel
theorem dL_comes_95 : decode cL_comes 95 = .ok (.sipush 512, 3) := by decide +kernel
theorem dL_comes_98 : decode cL_comes 98 = .ok (.idiv, 1) := by decide +kernel
theorem dL_comes_99 : decode cL_comes 99 = .ok (.bipush 9, 2) := by decide +kernel
theorem dL_comes_101 : decode cL_comes 101 = .ok (.irem, 1) := by decide +kernel
theorem dL_comes_102 : decode cL_comes 102 = .ok (.iadd, 1) := by decide +kernel
theorem dL_comes_103 : decode cL_comes 103 = .ok (.istore 8, 2) := by decide +kernel
theorem dL_comes_105 : decode cL_comes 105 = .ok (.iload 4, 2) := by decide +kernel
theorem dL_comes_107 : decode cL_comes 107 = .ok (.sipush 8192, 3) := by decide +kernel
theorem dL_comes_110 : decode cL_comes 110 = .ok (.idiv, 1) := by decide +kernel
theorem dL_comes_111 : decode cL_comes 111 = .ok (.iconst 3, 1) := by decide +kernel
theorem dL_comes_112 : decode cL_comes 112 = .ok (.irem, 1) := by decide +kernel
theorem dL_comes_113 : decode cL_comes 113 = .ok (.ifCond .ne 16, 3) := by decide +kernel
theorem dL_comes_116 : decode cL_comes 116 = .ok (.iconst 1, 1) := by decide +kernel
theorem dL_comes_117 : decode cL_comes 117 = .ok (.iload 4, 2) := by decide +kernel
theorem dL_comes_119 : decode cL_comes 119 = .ok (.sipush 16384, 3) := by decide +kernel
theorem dL_comes_122 : decode cL_comes 122 = .ok (.idiv, 1) := by decide +kernel
theorem dL_comes_123 : decode cL_comes 123 = .ok (.iconst 3, 1) := by decide +kernel
theorem dL_comes_124 : decode cL_comes 124 = .ok (.irem, 1) := by decide +kernel
theorem dL_comes_125 : decode cL_comes 125 = .ok (.iadd, 1) := by decide +kernel
theorem dL_comes_126 : decode cL_comes 126 = .ok (.goto 4, 3) := by decide +kernel
theorem dL_comes_129 : decode cL_comes 129 = .ok (.iconst 0, 1) := by decide +kernel
theorem dL_comes_130 : decode cL_comes 130 = .ok (.istore 9, 2) := by decide +kernel
theorem dL_comes_132 : decode cL_comes 132 = .ok (.aload_n 0, 1) := by decide +kernel
theorem dL_comes_133 : decode cL_comes 133 = .ok (.invokestatic 158, 3) := by decide +kernel
theorem dL_comes_136 : decode cL_comes 136 = .ok (.istore 10, 2) := by decide +kernel
theorem dL_comes_138 : decode cL_comes 138 = .ok (.aload_n 0, 1) := by decide +kernel
theorem dL_comes_139 : decode cL_comes 139 = .ok (.iload 7, 2) := by decide +kernel
theorem dL_comes_141 : decode cL_comes 141 = .ok (.iload 8, 2) := by decide +kernel
theorem dL_comes_143 : decode cL_comes 143 = .ok (.iload 9, 2) := by decide +kernel
theorem dL_comes_145 : decode cL_comes 145 = .ok (.invokestatic 146, 3) := by decide +kernel
theorem dL_comes_148 : decode cL_comes 148 = .ok (.istore 11, 2) := by decide +kernel
theorem dL_comes_150 : decode cL_comes 150 = .ok (.aload_n 0, 1) := by decide +kernel
theorem dL_comes_151 : decode cL_comes 151 = .ok (.invokestatic 158, 3) := by decide +kernel
theorem dL_comes_154 : decode cL_comes 154 = .ok (.istore 12, 2) := by decide +kernel
theorem dL_comes_156 : decode cL_comes 156 = .ok (.iload 9, 2) := by decide +kernel
theorem dL_comes_158 : decode cL_comes 158 = .ok (.ifCond .le 14, 3) := by decide +kernel
theorem dL_comes_161 : decode cL_comes 161 = .ok (.iload 11, 2) := by decide +kernel
theorem dL_comes_163 : decode cL_comes 163 = .ok (.iload 9, 2) := by decide +kernel
theorem dL_comes_165 : decode cL_comes 165 = .ok (.if_icmp .ne 7, 3) := by decide +kernel
theorem dL_comes_168 : decode cL_comes 168 = .ok (.iconst 1, 1) := by decide +kernel
theorem dL_comes_169 : decode cL_comes 169 = .ok (.goto 4, 3) := by decide +kernel
theorem dL_comes_172 : decode cL_comes 172 = .ok (.iconst 0, 1) := by decide +kernel
theorem dL_comes_173 : decode cL_comes 173 = .ok (.istore 13, 2) := by decide +kernel
theorem dL_comes_175 : decode cL_comes 175 = .ok (.iload 12, 2) := by decide +kernel
theorem dL_comes_177 : decode cL_comes 177 = .ok (.ldc 18, 2) := by decide +kernel
theorem dL_comes_179 : decode cL_comes 179 = .ok (.if_icmp .eq 24, 3) := by decide +kernel
theorem dL_comes_182 : decode cL_comes 182 = .ok (.iload_n 2, 1) := by decide +kernel
theorem dL_comes_183 : decode cL_comes 183 = .ok (.ifCond .eq 13, 3) := by decide +kernel
theorem dL_comes_186 : decode cL_comes 186 = .ok (.iload 12, 2) := by decide +kernel
theorem dL_comes_188 : decode cL_comes 188 = .ok (.iload 10, 2) := by decide +kernel
theorem dL_comes_190 : decode cL_comes 190 = .ok (.if_icmp .ge 17, 3) := by decide +kernel
theorem dL_comes_193 : decode cL_comes 193 = .ok (.goto 10, 3) := by decide +kernel
theorem dL_comes_196 : decode cL_comes 196 = .ok (.iload 12, 2) := by decide +kernel
theorem dL_comes_198 : decode cL_comes 198 = .ok (.iload 10, 2) := by decide +kernel
theorem dL_comes_200 : decode cL_comes 200 = .ok (.if_icmp .le 7, 3) := by decide +kernel
theorem dL_comes_203 : decode cL_comes 203 = .ok (.iconst 1, 1) := by decide +kernel
theorem dL_comes_204 : decode cL_comes 204 = .ok (.goto 4, 3) := by decide +kernel
theorem dL_comes_207 : decode cL_comes 207 = .ok (.iconst 0, 1) := by decide +kernel
theorem dL_comes_208 : decode cL_comes 208 = .ok (.istore 14, 2) := by decide +kernel
theorem dL_comes_210 : decode cL_comes 210 = .ok (.iload 11, 2) := by decide +kernel
theorem dL_comes_212 : decode cL_comes 212 = .ok (.ifCond .lt 40, 3) := by decide +kernel
theorem dL_comes_215 : decode cL_comes 215 = .ok (.iload 13, 2) := by decide +kernel
theorem dL_comes_217 : decode cL_comes 217 = .ok (.ifCond .eq 10, 3) := by decide +kernel
theorem dL_comes_220 : decode cL_comes 220 = .ok (.iload 12, 2) := by decide +kernel
theorem dL_comes_222 : decode cL_comes 222 = .ok (.iload 10, 2) := by decide +kernel
theorem dL_comes_224 : decode cL_comes 224 = .ok (.if_icmp .ne 28, 3) := by decide +kernel
theorem dL_comes_227 : decode cL_comes 227 = .ok (.iload 13, 2) := by decide +kernel
theorem dL_comes_229 : decode cL_comes 229 = .ok (.ifCond .ne 8, 3) := by decide +kernel
theorem dL_comes_232 : decode cL_comes 232 = .ok (.iload 14, 2) := by decide +kernel
theorem dL_comes_234 : decode cL_comes 234 = .ok (.ifCond .eq 18, 3) := by decide +kernel
theorem dL_comes_237 : decode cL_comes 237 = .ok (.iload 13, 2) := by decide +kernel
theorem dL_comes_239 : decode cL_comes 239 = .ok (.ifCond .eq 15, 3) := by decide +kernel
theorem dL_comes_242 : decode cL_comes 242 = .ok (.aload_n 0, 1) := by decide +kernel
theorem dL_comes_243 : decode cL_comes 243 = .ok (.iload 7, 2) := by decide +kernel
theorem dL_comes_245 : decode cL_comes 245 = .ok (.invokestatic 134, 3) := by decide +kernel
theorem dL_comes_248 : decode cL_comes 248 = .ok (.iconst 1, 1) := by decide +kernel
theorem dL_comes_249 : decode cL_comes 249 = .ok (.if_icmp .eq 5, 3) := by decide +kernel
theorem dL_comes_252 : decode cL_comes 252 = .ok (.iconst (-1), 1) := by decide +kernel
theorem dL_comes_253 : decode cL_comes 253 = .ok (.ireturn, 1) := by decide +kernel
theorem dL_comes_254 : decode cL_comes 254 = .ok (.iload_n 3, 1) := by decide +kernel
theorem dL_comes_255 : decode cL_comes 255 = .ok (.iload 11, 2) := by decide +kernel
theorem dL_comes_257 : decode cL_comes 257 = .ok (.iadd, 1) := by decide +kernel
theorem dL_comes_258 : decode cL_comes 258 = .ok (.istore_n 3, 1) := by decide +kernel
theorem dL_comes_259 : decode cL_comes 259 = .ok (.iload 12, 2) := by decide +kernel
theorem dL_comes_261 : decode cL_comes 261 = .ok (.istore 5, 2) := by decide +kernel
theorem dL_comes_263 : decode cL_comes 263 = .ok (.aload_n 0, 1) := by decide +kernel
theorem dL_comes_264 : decode cL_comes 264 = .ok (.iconst 1, 1) := by decide +kernel
theorem dL_comes_265 : decode cL_comes 265 = .ok (.iload 4, 2) := by decide +kernel
theorem dL_comes_267 : decode cL_comes 267 = .ok (.ldc 161, 2) := by decide +kernel
theorem dL_comes_269 : decode cL_comes 269 = .ok (.idiv, 1) := by decide +kernel
theorem dL_comes_270 : decode cL_comes 270 = .ok (.iconst 4, 1) := by decide +kernel
theorem dL_comes_271 : decode cL_comes 271 = .ok (.irem, 1) := by decide +kernel
theorem dL_comes_272 : decode cL_comes 272 = .ok (.iadd, 1) := by decide +kernel
theorem dL_comes_273 : decode cL_comes 273 = .ok (.invokestatic 137, 3) := by decide +kernel
theorem dL_comes_276 : decode cL_comes 276 = .ok (.pop, 1) := by decide +kernel
theorem dL_comes_277 : decode cL_comes 277 = .ok (.iinc 6 1, 3) := by decide +kernel
theorem dL_comes_280 : decode cL_comes 280 = .ok (.goto (-266), 3) := by decide +kernel
theorem dL_comes_283 : decode cL_comes 283 = .ok (.iload 5, 2) := by decide +kernel
theorem dL_comes_285 : decode cL_comes 285 = .ok (.ldc 18, 2) := by decide +kernel
theorem dL_comes_287 : decode cL_comes 287 = .ok (.if_icmp .ne 7, 3) := by decide +kernel
theorem dL_comes_290 : decode cL_comes 290 = .ok (.iload_n 3, 1) := by decide +kernel
theorem dL_comes_291 : decode cL_comes 291 = .ok (.goto 4, 3) := by decide +kernel
theorem dL_comes_294 : decode cL_comes 294 = .ok (.iconst (-1), 1) := by decide +kernel
theorem dL_comes_295 : decode cL_comes 295 = .ok (.ireturn, 1) := by decide +kernel
set_option maxRecDepth 20000 in
theorem ggL_law_X3_init : GoodIn wsL_law wsX3_init := goodIn_r _ [6, 7, 8, 9, 10, 11, 12, 13, 14, 15, 16, 17, 18, 19, 20, 21, 3, 22, 23, 24, 25, 26, 27, 28, 29, 30, 31, 32, 33, 34, 35, 36, 37, 38, 39, 40, 41, 42, 447, 448, 449, 450, 451, 440, 441, 442, 443, 444, 445, 446, 452, 453, 454, 455, 456, 457] (by decide +kernel) (by decide +kernel)
set_option maxRecDepth 20000 in
theorem gL_law_X3_init : GoodIn wsL_law (wsX3_init) := ggL_law_X3_init
set_option maxRecDepth 20000 in
theorem ggL_law_L_drawn : GoodIn wsL_law wsL_drawn := goodIn_r _ [46, 47, 48] (by decide +kernel) (by decide +kernel)
set_option maxRecDepth 20000 in
theorem gL_law_L_drawn : GoodIn wsL_law (va_wsS RL 163 yL_drawn wsL_drawn) := goodIn_app (goodIn_of _ (by decide +kernel)) ggL_law_L_drawn
set_option maxRecDepth 20000 in
theorem ggL_law_L_version : GoodIn wsL_law wsL_version := goodIn_ca (goodIn_r _ [51, 52, 53, 54, 55, 56, 2, 57, 17, 58, 59, 60, 61, 62, 63, 64, 65, 16, 66, 36, 440, 441, 442, 443, 444, 445, 446, 452, 453] (by decide +kernel) (by decide +kernel)) (goodIn_sub (fun _ h => List.mem_append_left _ (List.mem_append_left _ (List.mem_append_right _ h))) (by decide +kernel))
set_option maxRecDepth 20000 in
theorem gL_law_L_version : GoodIn wsL_law (va_wsS RL 122 yL_version wsL_version) := goodIn_app (goodIn_of _ (by decide +kernel)) ggL_law_L_version
set_option maxRecDepth 20000 in
theorem ggL_law_L_inserts : GoodIn wsL_law wsL_inserts := goodIn_ca (goodIn_ca (goodIn_r _ [69, 52, 70, 53, 71, 72, 73, 74, 2, 75, 76, 77, 17, 58, 59, 60, 61, 62, 78, 79, 80, 81, 82, 83, 84, 85, 86, 87, 88, 16, 89, 36, 90, 91, 92, 93, 94, 95, 96, 97, 98, 99, 23, 100, 101, 102, 103, 104, 105, 106, 107, 35, 108, 109, 110, 111, 440, 441, 442, 443, 444, 445, 446, 452, 453] (by decide +kernel) (by decide +kernel)) (goodIn_sub (fun _ h => List.mem_append_left _ (List.mem_append_right _ h)) (by decide +kernel))) (goodIn_sub (fun _ h => List.mem_append_left _ (List.mem_append_left _ (List.mem_append_right _ h))) (by decide +kernel))
set_option maxRecDepth 20000 in
theorem gL_law_L_inserts : GoodIn wsL_law (va_wsS RL 108 yL_inserts wsL_inserts) := goodIn_app (goodIn_of _ (by decide +kernel)) ggL_law_L_inserts
set_option maxRecDepth 20000 in
theorem ggL_law_L_rowsAt : GoodIn wsL_law wsL_rowsAt := goodIn_ca (goodIn_r _ [114, 52, 53, 115, 116, 117, 2, 118, 61, 62, 17, 119, 120, 121, 16, 122, 36, 440, 441, 442, 443, 444, 445, 446, 452, 453] (by decide +kernel) (by decide +kernel)) (goodIn_sub (fun _ h => List.mem_append_left _ (List.mem_append_left _ (List.mem_append_right _ h))) (by decide +kernel))
set_option maxRecDepth 20000 in
theorem gL_law_L_rowsAt : GoodIn wsL_law (va_wsS RL 124 yL_rowsAt wsL_rowsAt) := goodIn_app (goodIn_of _ (by decide +kernel)) ggL_law_L_rowsAt
set_option maxRecDepth 20000 in
theorem ggL_law_L_adds : GoodIn wsL_law wsL_adds := goodIn_ca (goodIn_ca (goodIn_r _ [125, 52, 70, 53, 71, 126, 127, 128, 2, 129, 76, 77, 13, 130, 131, 132, 61, 62, 133, 134, 135, 136, 137, 138, 139, 140, 141, 142, 143, 144, 12, 145, 146, 147, 148, 149, 150, 151, 152, 153, 154, 27, 28, 29, 440, 441, 442, 443, 444, 445, 446, 447, 448, 449, 450, 451] (by decide +kernel) (by decide +kernel)) (goodIn_sub (fun _ h => List.mem_append_left _ (List.mem_append_right _ h)) (by decide +kernel))) (goodIn_sub (fun _ h => List.mem_append_left _ (List.mem_append_left _ (List.mem_append_right _ h))) (by decide +kernel))
set_option maxRecDepth 20000 in
theorem gL_law_L_adds : GoodIn wsL_law (va_wsS RL 92 yL_adds wsL_adds) := goodIn_app (goodIn_of _ (by decide +kernel)) ggL_law_L_adds
set_option maxRecDepth 20000 in
theorem ggL_law_L_refuses : GoodIn wsL_law wsL_refuses := goodIn_ca (goodIn_ca (goodIn_ca (goodIn_r _ [157, 53, 71, 158, 159, 160, 161, 162, 163, 2, 164, 13, 165, 166, 167, 12, 168, 146, 123, 124, 45, 125, 52, 70, 126, 127, 128, 129, 76, 77, 130, 131, 132, 61, 62, 133, 134, 135, 136, 137, 138, 139, 140, 141, 142, 143, 144, 145, 147, 148, 149, 150, 151, 152, 153, 154, 27, 28, 29, 169, 170, 171, 172, 173, 174, 175, 176, 177, 178, 179, 180, 181, 182, 183, 184, 185, 186, 96, 97, 98, 99, 23, 100, 101, 102, 103, 95, 187, 188, 189, 190, 191, 192, 193, 194, 195, 196, 197, 198, 199, 200, 201, 202, 203, 204, 205, 206, 67, 68, 69, 72, 73, 74, 75, 17, 58, 59, 60, 78, 79, 80, 81, 82, 83, 84, 85, 86, 87, 88, 16, 89, 36, 90, 91, 92, 93, 94, 104, 105, 106, 107, 35, 108, 109, 110, 111, 207, 208, 209, 210, 211, 212, 213, 214, 215, 216, 217, 218, 219, 220, 221, 222, 223, 224, 225, 226, 227, 228, 63, 64, 65, 66, 229, 230, 231, 232, 233, 234, 235, 49, 50, 51, 54, 55, 56, 57, 112, 113, 114, 115, 116, 117, 118, 119, 120, 121, 122, 236, 237, 238, 239, 240, 241, 242, 22, 243, 244, 245, 246, 247, 248, 249, 250, 251, 252, 253, 254, 255, 256, 257, 258, 259, 260, 261, 262, 263, 264, 265, 266, 267, 268, 269, 270, 271, 272, 21, 273, 274, 275, 276, 277, 278, 279, 280, 281, 282, 20, 283, 41, 284, 285, 286, 287, 288, 289, 42, 290, 291, 292, 293, 294, 295, 296, 297, 298, 299, 300, 301, 302, 303, 304, 305, 306, 307, 308, 309, 310, 311, 312, 313, 314, 315, 316, 317, 318, 319, 320, 321, 322, 323, 324, 325, 326, 327, 328, 329, 330, 331, 332, 333, 334, 335, 336, 337, 338, 339, 340, 341, 342, 343, 344, 345, 30, 346, 347, 348, 349, 350, 351, 352, 353, 354, 355, 356, 357, 358, 359, 360, 361, 362, 363, 364, 365, 366, 367, 368, 369, 370, 371, 372, 373, 374, 375, 376, 377, 378, 379, 380, 381, 382, 383, 384, 385, 386, 387, 388, 389, 390, 391, 392, 393, 394, 395, 396, 397, 398, 399, 400, 401, 402, 403, 404, 405, 406, 407, 408, 409, 410, 411, 412, 413, 414, 440, 441, 442, 443, 444, 445, 446, 447, 448, 449, 450, 451, 452, 453, 454, 455, 456, 457] (by rfl) (by decide +kernel)) (goodIn_sub (fun _ h => List.mem_append_left _ (List.mem_append_right _ h)) (by decide +kernel))) (goodIn_sub (fun _ h => List.mem_append_left _ (List.mem_append_left _ (List.mem_append_right _ h))) (by decide +kernel))) (goodIn_sub (fun _ h => List.mem_append_right _ h) (by decide +kernel))
set_option maxRecDepth 20000 in
theorem gL_law_L_refuses : GoodIn wsL_law (va_wsS RL 167 yL_refuses wsL_refuses) := goodIn_app (goodIn_of _ (by decide +kernel)) ggL_law_L_refuses
set_option maxRecDepth 20000 in
theorem ggL_law_L_takes : GoodIn wsL_law wsL_takes := goodIn_ca (goodIn_ca (goodIn_r _ [268, 52, 70, 53, 71, 269, 270, 271, 2, 272, 61, 62, 76, 77, 21, 273, 274, 275, 276, 277, 278, 279, 280, 281, 282, 20, 283, 41, 284, 285, 286, 287, 288, 289, 42, 290, 291, 292, 293, 440, 441, 442, 443, 444, 445, 446, 454, 455, 456, 457] (by decide +kernel) (by decide +kernel)) (goodIn_sub (fun _ h => List.mem_append_left _ (List.mem_append_left _ (List.mem_append_right _ h))) (by decide +kernel))) (goodIn_sub (fun _ h => List.mem_append_left _ (List.mem_append_right _ h)) (by decide +kernel))
set_option maxRecDepth 20000 in
theorem gL_law_L_takes : GoodIn wsL_law (va_wsS RL 128 yL_takes wsL_takes) := goodIn_app (goodIn_of _ (by decide +kernel)) ggL_law_L_takes
set_option maxRecDepth 20000 in
theorem ggL_law_L_begins : GoodIn wsL_law wsL_begins := goodIn_ca (goodIn_ca (goodIn_r _ [333, 52, 70, 53, 71, 334, 335, 336, 2, 337, 76, 77, 13, 95, 23, 94, 273, 274, 275, 61, 62, 301, 302, 303, 304, 21, 276, 277, 278, 279, 280, 281, 282, 20, 283, 41, 284, 285, 286, 287, 288, 289, 42, 96, 97, 98, 99, 338, 339, 340, 12, 341, 342, 343, 344, 345, 30, 346, 189, 190, 191, 27, 28, 29, 192, 165, 166, 167, 168, 146, 100, 101, 102, 103, 347, 348, 349, 350, 440, 441, 442, 443, 444, 445, 446, 454, 455, 456, 457, 447, 448, 449, 450, 451] (by decide +kernel) (by decide +kernel)) (goodIn_sub (fun _ h => List.mem_append_left _ (List.mem_append_right _ h)) (by decide +kernel))) (goodIn_sub (fun _ h => List.mem_append_left _ (List.mem_append_left _ (List.mem_append_right _ h))) (by decide +kernel))
set_option maxRecDepth 20000 in
theorem gL_law_L_begins : GoodIn wsL_law (va_wsS RL 140 yL_begins wsL_begins) := goodIn_app (goodIn_of _ (by decide +kernel)) ggL_law_L_begins
set_option maxRecDepth 20000 in
theorem ggL_law_L_steps : GoodIn wsL_law wsL_steps := goodIn_ca (goodIn_ca (goodIn_r _ [365, 52, 70, 53, 71, 366, 367, 368, 2, 369, 61, 62, 370, 371, 372, 373, 273, 274, 275, 301, 302, 303, 304, 76, 77, 21, 276, 277, 278, 279, 280, 281, 282, 20, 283, 41, 284, 285, 286, 287, 288, 289, 42, 374, 375, 376, 377, 96, 97, 98, 99, 23, 378, 379, 380, 381, 94, 382, 383, 384, 385, 386, 387, 388, 389, 390, 391, 392, 393, 17, 86, 87, 88, 16, 89, 36, 63, 64, 65, 66, 100, 101, 102, 103, 95, 394, 395, 396, 397, 22, 243, 244, 245, 246, 247, 219, 220, 221, 35, 248, 249, 250, 251, 13, 252, 253, 254, 12, 255, 28, 29, 27, 256, 257, 258, 82, 83, 84, 85, 259, 260, 261, 262, 263, 264, 265, 398, 399, 400, 401, 402, 105, 106, 107, 108, 109, 110, 111, 403, 404, 405, 406, 316, 317, 318, 319, 407, 408, 409, 410, 440, 441, 442, 443, 444, 445, 446, 454, 455, 456, 457, 452, 453, 447, 448, 449, 450, 451] (by decide +kernel) (by decide +kernel)) (goodIn_sub (fun _ h => List.mem_append_left _ (List.mem_append_left _ (List.mem_append_right _ h))) (by decide +kernel))) (goodIn_sub (fun _ h => List.mem_append_left _ (List.mem_append_right _ h)) (by decide +kernel))
set_option maxRecDepth 20000 in
theorem gL_law_L_steps : GoodIn wsL_law (va_wsS RL 146 yL_steps wsL_steps) := goodIn_app (goodIn_of _ (by decide +kernel)) ggL_law_L_steps
set_option maxRecDepth 20000 in
theorem ggL_law_X3_level : GoodIn wsL_law wsX3_level := goodIn_r _ [418, 95, 440, 441, 442, 443, 444, 445, 446] (by decide +kernel) (by decide +kernel)
set_option maxRecDepth 20000 in
theorem gL_law_X3_level : GoodIn wsL_law (wsV RL 152 RX3 yX3_level wsX3_level) := goodIn_app (goodIn_of _ (by decide +kernel)) ggL_law_X3_level
set_option maxRecDepth 20000 in
theorem ggL_law_L_ledgerWorker : GoodIn wsL_law wsL_ledgerWorker := goodIn_ca (goodIn_ca (goodIn_r _ [421, 411, 412, 413, 2, 414, 21, 284, 285, 286, 20, 287, 288, 289, 42, 309, 310, 45, 311, 52, 70, 53, 71, 312, 313, 314, 315, 76, 77, 273, 274, 275, 61, 62, 280, 281, 282, 283, 41, 316, 317, 318, 319, 266, 267, 268, 269, 270, 271, 272, 276, 277, 278, 279, 290, 291, 292, 293, 440, 441, 442, 443, 444, 445, 446, 454, 455, 456, 457] (by decide +kernel) (by decide +kernel)) (goodIn_sub (fun _ h => List.mem_append_left _ (List.mem_append_right _ h)) (by decide +kernel))) (goodIn_sub (fun _ h => List.mem_append_left _ (List.mem_append_left _ (List.mem_append_right _ h))) (by decide +kernel))
set_option maxRecDepth 20000 in
theorem gL_law_L_ledgerWorker : GoodIn wsL_law (va_wsS RL 171 yL_ledgerWorker wsL_ledgerWorker) := goodIn_app (goodIn_of _ (by decide +kernel)) ggL_law_L_ledgerWorker
set_option maxRecDepth 20000 in
theorem ggL_law_L_comes : GoodIn wsL_law wsL_comes := goodIn_ca (goodIn_ca (goodIn_r _ [424, 71, 48, 425, 426, 427, 45, 428, 70, 429, 430, 431, 2, 432, 94, 374, 375, 376, 377, 76, 77, 96, 97, 98, 99, 23, 411, 412, 413, 414, 21, 284, 285, 286, 20, 287, 288, 289, 42, 309, 310, 311, 52, 53, 312, 313, 314, 315, 273, 274, 275, 61, 62, 280, 281, 282, 283, 41, 316, 317, 318, 319, 266, 267, 268, 269, 270, 271, 272, 276, 277, 278, 279, 290, 291, 292, 293, 363, 364, 365, 366, 367, 368, 369, 370, 371, 372, 373, 301, 302, 303, 304, 378, 379, 380, 381, 382, 383, 384, 385, 386, 387, 388, 389, 390, 391, 392, 393, 17, 86, 87, 88, 16, 89, 36, 63, 64, 65, 66, 100, 101, 102, 103, 95, 394, 395, 396, 397, 22, 243, 244, 245, 246, 247, 219, 220, 221, 35, 248, 249, 250, 251, 13, 252, 253, 254, 12, 255, 28, 29, 27, 256, 257, 258, 82, 83, 84, 85, 259, 260, 261, 262, 263, 264, 265, 398, 399, 400, 401, 402, 105, 106, 107, 108, 109, 110, 111, 403, 404, 405, 406, 407, 408, 409, 410, 320, 321, 322, 323, 324, 325, 326, 327, 328, 329, 330, 440, 441, 442, 443, 444, 445, 446, 454, 455, 456, 457, 452, 453, 447, 448, 449, 450, 451] (by decide +kernel) (by decide +kernel)) (goodIn_sub (fun _ h => List.mem_append_left _ (List.mem_append_right _ h)) (by decide +kernel))) (goodIn_sub (fun _ h => List.mem_append_left _ (List.mem_append_left _ (List.mem_append_right _ h))) (by decide +kernel))
set_option maxRecDepth 20000 in
theorem gL_law_L_comes : GoodIn wsL_law (va_wsS RL 174 yL_comes wsL_comes) := goodIn_app (goodIn_of _ (by decide +kernel)) ggL_law_L_comes
set_option maxRecDepth 20000 in
theorem ggL_law_L_alike : GoodIn wsL_law wsL_alike := goodIn_ca (goodIn_ca (goodIn_r _ [435, 415, 416, 417, 2, 418, 95, 161, 162, 163, 164, 13, 165, 166, 167, 12, 168, 146, 436, 437, 438, 439, 338, 339, 340, 341, 342, 343, 344, 345, 30, 346, 189, 190, 191, 27, 28, 29, 192, 49, 50, 45, 51, 52, 53, 54, 55, 56, 57, 17, 58, 59, 60, 61, 62, 63, 64, 65, 16, 66, 36, 229, 230, 231, 172, 158, 232, 233, 234, 235, 133, 134, 135, 136, 137, 138, 214, 215, 216, 217, 181, 182, 86, 87, 88, 89, 218, 219, 220, 221, 35, 440, 441, 442, 443, 444, 445, 446, 447, 448, 449, 450, 451, 452, 453] (by decide +kernel) (by decide +kernel)) (goodIn_sub (fun _ h => List.mem_append_left _ (List.mem_append_left _ (List.mem_append_right _ h))) (by decide +kernel))) (goodIn_sub (fun _ h => List.mem_append_right _ h) (by decide +kernel))
set_option maxRecDepth 20000 in
theorem gL_law_L_alike : GoodIn wsL_law (va_wsS RL 178 yL_alike wsL_alike) := goodIn_app (goodIn_of _ (by decide +kernel)) ggL_law_L_alike
set_option maxRecDepth 20000 in
theorem ggL_law_L_valueAt : GoodIn wsL_law wsL_valueAt := goodIn_ca (goodIn_ca (goodIn_ca (goodIn_r _ [238, 52, 172, 70, 53, 158, 71, 239, 240, 241, 2, 242, 61, 62, 76, 77, 13, 17, 22, 58, 59, 60, 133, 134, 135, 136, 137, 138, 165, 166, 167, 12, 168, 146, 214, 215, 216, 217, 181, 182, 86, 87, 88, 16, 89, 36, 243, 244, 245, 246, 247, 219, 220, 221, 35, 63, 64, 65, 66, 248, 249, 250, 251, 252, 253, 254, 255, 28, 29, 27, 256, 257, 258, 82, 83, 84, 85, 259, 260, 261, 262, 263, 264, 265, 440, 441, 442, 443, 444, 445, 446, 447, 448, 449, 450, 451, 452, 453] (by decide +kernel) (by decide +kernel)) (goodIn_sub (fun _ h => List.mem_append_left _ (List.mem_append_left _ (List.mem_append_right _ h))) (by decide +kernel))) (goodIn_sub (fun _ h => List.mem_append_left _ (List.mem_append_right _ h)) (by decide +kernel))) (goodIn_sub (fun _ h => List.mem_append_right _ h) (by decide +kernel))
set_option maxRecDepth 20000 in
theorem gL_law_L_valueAt : GoodIn wsL_law (va_wsS RL 126 yL_valueAt wsL_valueAt) := goodIn_app (goodIn_of _ (by decide +kernel)) ggL_law_L_valueAt
set_option maxRecDepth 20000 in
theorem ggL_law_L_value : GoodIn wsL_law wsL_value := goodIn_ca (goodIn_ca (goodIn_r _ [231, 52, 172, 53, 158, 232, 233, 234, 2, 235, 17, 58, 59, 60, 61, 62, 133, 134, 135, 136, 137, 138, 214, 215, 216, 217, 181, 182, 86, 87, 88, 16, 89, 36, 218, 219, 220, 221, 35, 440, 441, 442, 443, 444, 445, 446, 452, 453] (by decide +kernel) (by decide +kernel)) (goodIn_sub (fun _ h => List.mem_append_left _ (List.mem_append_left _ (List.mem_append_right _ h))) (by decide +kernel))) (goodIn_sub (fun _ h => List.mem_append_right _ h) (by decide +kernel))
set_option maxRecDepth 20000 in
theorem gL_law_L_value : GoodIn wsL_law (va_wsS RL 119 yL_value wsL_value) := goodIn_app (goodIn_of _ (by decide +kernel)) ggL_law_L_value
set_option maxRecDepth 20000 in
theorem ggL_law_L_undoes : GoodIn wsL_law wsL_undoes := goodIn_ca (goodIn_ca (goodIn_r _ [353, 52, 70, 53, 71, 354, 355, 356, 2, 357, 76, 77, 23, 95, 94, 273, 274, 275, 61, 62, 301, 302, 303, 304, 21, 276, 277, 278, 279, 280, 281, 282, 20, 283, 41, 284, 285, 286, 287, 288, 289, 42, 358, 359, 360, 361, 13, 362, 343, 344, 12, 345, 30, 346, 189, 190, 191, 27, 28, 29, 192, 100, 101, 102, 103, 440, 441, 442, 443, 444, 445, 446, 454, 455, 456, 457, 447, 448, 449, 450, 451] (by decide +kernel) (by decide +kernel)) (goodIn_sub (fun _ h => List.mem_append_left _ (List.mem_append_right _ h)) (by decide +kernel))) (goodIn_sub (fun _ h => List.mem_append_left _ (List.mem_append_left _ (List.mem_append_right _ h))) (by decide +kernel))
set_option maxRecDepth 20000 in
theorem gL_law_L_undoes : GoodIn wsL_law (va_wsS RL 143 yL_undoes wsL_undoes) := goodIn_app (goodIn_of _ (by decide +kernel)) ggL_law_L_undoes
theorem dL_law_0 : decode cL_law 0 = .ok (.new 8, 3) := by decide +kernel
theorem dL_law_3 : decode cL_law 3 = .ok (.dup, 1) := by decide +kernel
theorem dL_law_4 : decode cL_law 4 = .ok (.invokespecial 162, 3) := by decide +kernel
theorem dL_law_7 : decode cL_law 7 = .ok (.astore_n 1, 1) := by decide +kernel
theorem dL_law_8 : decode cL_law 8 = .ok (.new 8, 3) := by decide +kernel
theorem dL_law_11 : decode cL_law 11 = .ok (.dup, 1) := by decide +kernel
theorem dL_law_12 : decode cL_law 12 = .ok (.invokespecial 162, 3) := by decide +kernel
theorem dL_law_15 : decode cL_law 15 = .ok (.astore_n 2, 1) := by decide +kernel
theorem dL_law_16 : decode cL_law 16 = .ok (.aload_n 0, 1) := by decide +kernel
theorem dL_law_17 : decode cL_law 17 = .ok (.iconst 0, 1) := by decide +kernel
theorem dL_law_18 : decode cL_law 18 = .ok (.invokestatic 163, 3) := by decide +kernel
theorem dL_law_21 : decode cL_law 21 = .ok (.istore_n 3, 1) := by decide +kernel
theorem dL_law_22 : decode cL_law 22 = .ok (.iconst 1, 1) := by decide +kernel
theorem dL_law_23 : decode cL_law 23 = .ok (.iload_n 3, 1) := by decide +kernel
theorem dL_law_24 : decode cL_law 24 = .ok (.bipush 20, 2) := by decide +kernel
theorem dL_law_26 : decode cL_law 26 = .ok (.irem, 1) := by decide +kernel
theorem dL_law_27 : decode cL_law 27 = .ok (.iadd, 1) := by decide +kernel
theorem dL_law_28 : decode cL_law 28 = .ok (.istore 4, 2) := by decide +kernel
theorem dL_law_30 : decode cL_law 30 = .ok (.iconst 1, 1) := by decide +kernel
theorem dL_law_31 : decode cL_law 31 = .ok (.iload_n 3, 1) := by decide +kernel
theorem dL_law_32 : decode cL_law 32 = .ok (.bipush 20, 2) := by decide +kernel
theorem dL_law_34 : decode cL_law 34 = .ok (.idiv, 1) := by decide +kernel
theorem dL_law_35 : decode cL_law 35 = .ok (.bipush 8, 2) := by decide +kernel
theorem dL_law_37 : decode cL_law 37 = .ok (.irem, 1) := by decide +kernel
theorem dL_law_38 : decode cL_law 38 = .ok (.iadd, 1) := by decide +kernel
theorem dL_law_39 : decode cL_law 39 = .ok (.istore 5, 2) := by decide +kernel
theorem dL_law_41 : decode cL_law 41 = .ok (.bipush 40, 2) := by decide +kernel
theorem dL_law_43 : decode cL_law 43 = .ok (.newarray .int, 2) := by decide +kernel
theorem dL_law_45 : decode cL_law 45 = .ok (.astore 6, 2) := by decide +kernel
theorem dL_law_47 : decode cL_law 47 = .ok (.bipush 40, 2) := by decide +kernel
theorem dL_law_49 : decode cL_law 49 = .ok (.newarray .int, 2) := by decide +kernel
theorem dL_law_51 : decode cL_law 51 = .ok (.astore 7, 2) := by decide +kernel
theorem dL_law_53 : decode cL_law 53 = .ok (.iconst 1, 1) := by decide +kernel
theorem dL_law_54 : decode cL_law 54 = .ok (.istore 8, 2) := by decide +kernel
theorem dL_law_56 : decode cL_law 56 = .ok (.iconst 0, 1) := by decide +kernel
theorem dL_law_57 : decode cL_law 57 = .ok (.istore 9, 2) := by decide +kernel
theorem dL_law_59 : decode cL_law 59 = .ok (.iload 9, 2) := by decide +kernel
theorem dL_law_61 : decode cL_law 61 = .ok (.iload 4, 2) := by decide +kernel
theorem dL_law_63 : decode cL_law 63 = .ok (.if_icmp .ge 123, 3) := by decide +kernel
theorem dL_law_66 : decode cL_law 66 = .ok (.iload 8, 2) := by decide +kernel
theorem dL_law_68 : decode cL_law 68 = .ok (.ifCond .eq 118, 3) := by decide +kernel
theorem dL_law_71 : decode cL_law 71 = .ok (.aload_n 0, 1) := by decide +kernel
theorem dL_law_72 : decode cL_law 72 = .ok (.iconst 1, 1) := by decide +kernel
theorem dL_law_73 : decode cL_law 73 = .ok (.iload 9, 2) := by decide +kernel
theorem dL_law_75 : decode cL_law 75 = .ok (.iadd, 1) := by decide +kernel
theorem dL_law_76 : decode cL_law 76 = .ok (.invokestatic 163, 3) := by decide +kernel
theorem dL_law_79 : decode cL_law 79 = .ok (.istore 10, 2) := by decide +kernel
theorem dL_law_81 : decode cL_law 81 = .ok (.iload 10, 2) := by decide +kernel
theorem dL_law_83 : decode cL_law 83 = .ok (.bipush 40, 2) := by decide +kernel
theorem dL_law_85 : decode cL_law 85 = .ok (.irem, 1) := by decide +kernel
theorem dL_law_86 : decode cL_law 86 = .ok (.istore 11, 2) := by decide +kernel
theorem dL_law_88 : decode cL_law 88 = .ok (.aload_n 1, 1) := by decide +kernel
theorem dL_law_89 : decode cL_law 89 = .ok (.iload 11, 2) := by decide +kernel
theorem dL_law_91 : decode cL_law 91 = .ok (.invokestatic 122, 3) := by decide +kernel
theorem dL_law_94 : decode cL_law 94 = .ok (.ifCond .ge 86, 3) := by decide +kernel
theorem dL_law_97 : decode cL_law 97 = .ok (.aload 6, 2) := by decide +kernel
theorem dL_law_99 : decode cL_law 99 = .ok (.iload 11, 2) := by decide +kernel
theorem dL_law_101 : decode cL_law 101 = .ok (.iload 10, 2) := by decide +kernel
theorem dL_law_103 : decode cL_law 103 = .ok (.bipush 40, 2) := by decide +kernel
theorem dL_law_105 : decode cL_law 105 = .ok (.idiv, 1) := by decide +kernel
theorem dL_law_106 : decode cL_law 106 = .ok (.bipush 19, 2) := by decide +kernel
theorem dL_law_108 : decode cL_law 108 = .ok (.irem, 1) := by decide +kernel
theorem dL_law_109 : decode cL_law 109 = .ok (.bipush 9, 2) := by decide +kernel
theorem dL_law_111 : decode cL_law 111 = .ok (.isub, 1) := by decide +kernel
theorem dL_law_112 : decode cL_law 112 = .ok (.iastore, 1) := by decide +kernel
theorem dL_law_113 : decode cL_law 113 = .ok (.aload 7, 2) := by decide +kernel
theorem dL_law_115 : decode cL_law 115 = .ok (.iload 11, 2) := by decide +kernel
theorem dL_law_117 : decode cL_law 117 = .ok (.iload 10, 2) := by decide +kernel
theorem dL_law_119 : decode cL_law 119 = .ok (.sipush 760, 3) := by decide +kernel
theorem dL_law_122 : decode cL_law 122 = .ok (.idiv, 1) := by decide +kernel
theorem dL_law_123 : decode cL_law 123 = .ok (.sipush 201, 3) := by decide +kernel
theorem dL_law_126 : decode cL_law 126 = .ok (.irem, 1) := by decide +kernel
theorem dL_law_127 : decode cL_law 127 = .ok (.bipush 100, 2) := by decide +kernel
theorem dL_law_129 : decode cL_law 129 = .ok (.isub, 1) := by decide +kernel
theorem dL_law_130 : decode cL_law 130 = .ok (.iastore, 1) := by decide +kernel
theorem dL_law_131 : decode cL_law 131 = .ok (.aload_n 1, 1) := by decide +kernel
theorem dL_law_132 : decode cL_law 132 = .ok (.iload 11, 2) := by decide +kernel
theorem dL_law_134 : decode cL_law 134 = .ok (.aload 6, 2) := by decide +kernel
theorem dL_law_136 : decode cL_law 136 = .ok (.iload 11, 2) := by decide +kernel
theorem dL_law_138 : decode cL_law 138 = .ok (.iaload, 1) := by decide +kernel
theorem dL_law_139 : decode cL_law 139 = .ok (.aload 7, 2) := by decide +kernel
theorem dL_law_141 : decode cL_law 141 = .ok (.iload 11, 2) := by decide +kernel
theorem dL_law_143 : decode cL_law 143 = .ok (.iaload, 1) := by decide +kernel
theorem dL_law_144 : decode cL_law 144 = .ok (.iload 11, 2) := by decide +kernel
theorem dL_law_146 : decode cL_law 146 = .ok (.invokestatic 108, 3) := by decide +kernel
theorem dL_law_149 : decode cL_law 149 = .ok (.ifCond .ne 28, 3) := by decide +kernel
theorem dL_law_152 : decode cL_law 152 = .ok (.aload_n 2, 1) := by decide +kernel
theorem dL_law_153 : decode cL_law 153 = .ok (.iload 11, 2) := by decide +kernel
theorem dL_law_155 : decode cL_law 155 = .ok (.aload 6, 2) := by decide +kernel
theorem dL_law_157 : decode cL_law 157 = .ok (.iload 11, 2) := by decide +kernel
theorem dL_law_159 : decode cL_law 159 = .ok (.iaload, 1) := by decide +kernel
theorem dL_law_160 : decode cL_law 160 = .ok (.aload 7, 2) := by decide +kernel
theorem dL_law_162 : decode cL_law 162 = .ok (.iload 11, 2) := by decide +kernel
theorem dL_law_164 : decode cL_law 164 = .ok (.iaload, 1) := by decide +kernel
theorem dL_law_165 : decode cL_law 165 = .ok (.iload 11, 2) := by decide +kernel
theorem dL_law_167 : decode cL_law 167 = .ok (.invokestatic 108, 3) := by decide +kernel
theorem dL_law_170 : decode cL_law 170 = .ok (.ifCond .ne 7, 3) := by decide +kernel
theorem dL_law_173 : decode cL_law 173 = .ok (.iconst 1, 1) := by decide +kernel
theorem dL_law_174 : decode cL_law 174 = .ok (.goto 4, 3) := by decide +kernel
theorem dL_law_177 : decode cL_law 177 = .ok (.iconst 0, 1) := by decide +kernel
theorem dL_law_178 : decode cL_law 178 = .ok (.istore 8, 2) := by decide +kernel
theorem dL_law_180 : decode cL_law 180 = .ok (.iinc 9 1, 3) := by decide +kernel
theorem dL_law_183 : decode cL_law 183 = .ok (.goto (-124), 3) := by decide +kernel
theorem dL_law_186 : decode cL_law 186 = .ok (.aload_n 1, 1) := by decide +kernel
theorem dL_law_187 : decode cL_law 187 = .ok (.iconst 0, 1) := by decide +kernel
theorem dL_law_188 : decode cL_law 188 = .ok (.invokestatic 124, 3) := by decide +kernel
theorem dL_law_191 : decode cL_law 191 = .ok (.istore 9, 2) := by decide +kernel
theorem dL_law_193 : decode cL_law 193 = .ok (.iconst 1, 1) := by decide +kernel
theorem dL_law_194 : decode cL_law 194 = .ok (.istore 10, 2) := by decide +kernel
theorem dL_law_196 : decode cL_law 196 = .ok (.iload 10, 2) := by decide +kernel
theorem dL_law_198 : decode cL_law 198 = .ok (.iload 5, 2) := by decide +kernel
theorem dL_law_200 : decode cL_law 200 = .ok (.if_icmp .gt 272, 3) := by decide +kernel
theorem dL_law_203 : decode cL_law 203 = .ok (.iload 8, 2) := by decide +kernel
theorem dL_law_205 : decode cL_law 205 = .ok (.ifCond .eq 267, 3) := by decide +kernel
theorem dL_law_208 : decode cL_law 208 = .ok (.aload_n 0, 1) := by decide +kernel
theorem dL_law_209 : decode cL_law 209 = .ok (.bipush 21, 2) := by decide +kernel
theorem dL_law_211 : decode cL_law 211 = .ok (.iload 10, 2) := by decide +kernel
theorem dL_law_213 : decode cL_law 213 = .ok (.iadd, 1) := by decide +kernel
theorem dL_law_214 : decode cL_law 214 = .ok (.invokestatic 163, 3) := by decide +kernel
theorem dL_law_217 : decode cL_law 217 = .ok (.istore 11, 2) := by decide +kernel
theorem dL_law_219 : decode cL_law 219 = .ok (.iload 11, 2) := by decide +kernel
theorem dL_law_221 : decode cL_law 221 = .ok (.iconst 3, 1) := by decide +kernel
theorem dL_law_222 : decode cL_law 222 = .ok (.irem, 1) := by decide +kernel
theorem dL_law_223 : decode cL_law 223 = .ok (.istore 12, 2) := by decide +kernel
theorem dL_law_225 : decode cL_law 225 = .ok (.iload 11, 2) := by decide +kernel
theorem dL_law_227 : decode cL_law 227 = .ok (.iconst 3, 1) := by decide +kernel
theorem dL_law_228 : decode cL_law 228 = .ok (.idiv, 1) := by decide +kernel
theorem dL_law_229 : decode cL_law 229 = .ok (.iconst 3, 1) := by decide +kernel
theorem dL_law_230 : decode cL_law 230 = .ok (.irem, 1) := by decide +kernel
theorem dL_law_231 : decode cL_law 231 = .ok (.istore 13, 2) := by decide +kernel
theorem dL_law_233 : decode cL_law 233 = .ok (.iload 12, 2) := by decide +kernel
theorem dL_law_235 : decode cL_law 235 = .ok (.ifCond .ne 18, 3) := by decide +kernel
theorem dL_law_238 : decode cL_law 238 = .ok (.iload 11, 2) := by decide +kernel
theorem dL_law_240 : decode cL_law 240 = .ok (.bipush 9, 2) := by decide +kernel
theorem dL_law_242 : decode cL_law 242 = .ok (.idiv, 1) := by decide +kernel
theorem dL_law_243 : decode cL_law 243 = .ok (.sipush 201, 3) := by decide +kernel
theorem dL_law_246 : decode cL_law 246 = .ok (.irem, 1) := by decide +kernel
theorem dL_law_247 : decode cL_law 247 = .ok (.bipush 100, 2) := by decide +kernel
theorem dL_law_249 : decode cL_law 249 = .ok (.isub, 1) := by decide +kernel
theorem dL_law_250 : decode cL_law 250 = .ok (.goto 35, 3) := by decide +kernel
theorem dL_law_253 : decode cL_law 253 = .ok (.iload 12, 2) := by decide +kernel
theorem dL_law_255 : decode cL_law 255 = .ok (.iconst 1, 1) := by decide +kernel
theorem dL_law_256 : decode cL_law 256 = .ok (.if_icmp .ne 15, 3) := by decide +kernel
theorem dL_law_259 : decode cL_law 259 = .ok (.iload 11, 2) := by decide +kernel
theorem dL_law_261 : decode cL_law 261 = .ok (.bipush 9, 2) := by decide +kernel
theorem dL_law_263 : decode cL_law 263 = .ok (.idiv, 1) := by decide +kernel
theorem dL_law_264 : decode cL_law 264 = .ok (.iconst 3, 1) := by decide +kernel
theorem dL_law_265 : decode cL_law 265 = .ok (.irem, 1) := by decide +kernel
theorem dL_law_266 : decode cL_law 266 = .ok (.iconst 1, 1) := by decide +kernel
theorem dL_law_267 : decode cL_law 267 = .ok (.iadd, 1) := by decide +kernel
theorem dL_law_268 : decode cL_law 268 = .ok (.goto 17, 3) := by decide +kernel
theorem dL_law_271 : decode cL_law 271 = .ok (.iload 13, 2) := by decide +kernel
theorem dL_law_273 : decode cL_law 273 = .ok (.iconst 1, 1) := by decide +kernel
theorem dL_law_274 : decode cL_law 274 = .ok (.iadd, 1) := by decide +kernel
theorem dL_law_275 : decode cL_law 275 = .ok (.iload 11, 2) := by decide +kernel
theorem dL_law_277 : decode cL_law 277 = .ok (.bipush 9, 2) := by decide +kernel
theorem dL_law_279 : decode cL_law 279 = .ok (.idiv, 1) := by decide +kernel
theorem dL_law_280 : decode cL_law 280 = .ok (.iconst 2, 1) := by decide +kernel
theorem dL_law_281 : decode cL_law 281 = .ok (.irem, 1) := by decide +kernel
theorem dL_law_282 : decode cL_law 282 = .ok (.iadd, 1) := by decide +kernel
theorem dL_law_283 : decode cL_law 283 = .ok (.iconst 3, 1) := by decide +kernel
theorem dL_law_284 : decode cL_law 284 = .ok (.irem, 1) := by decide +kernel
theorem dL_law_285 : decode cL_law 285 = .ok (.istore 14, 2) := by decide +kernel
theorem dL_law_287 : decode cL_law 287 = .ok (.aload_n 1, 1) := by decide +kernel
theorem dL_law_288 : decode cL_law 288 = .ok (.iload 12, 2) := by decide +kernel
theorem dL_law_290 : decode cL_law 290 = .ok (.iload 13, 2) := by decide +kernel
theorem dL_law_292 : decode cL_law 292 = .ok (.iload 14, 2) := by decide +kernel
theorem dL_law_294 : decode cL_law 294 = .ok (.invokestatic 92, 3) := by decide +kernel
theorem dL_law_297 : decode cL_law 297 = .ok (.iload 10, 2) := by decide +kernel
theorem dL_law_299 : decode cL_law 299 = .ok (.if_icmp .ne 77, 3) := by decide +kernel
theorem dL_law_302 : decode cL_law 302 = .ok (.aload_n 2, 1) := by decide +kernel
theorem dL_law_303 : decode cL_law 303 = .ok (.iload 12, 2) := by decide +kernel
theorem dL_law_305 : decode cL_law 305 = .ok (.iload 13, 2) := by decide +kernel
theorem dL_law_307 : decode cL_law 307 = .ok (.iload 14, 2) := by decide +kernel
theorem dL_law_309 : decode cL_law 309 = .ok (.invokestatic 92, 3) := by decide +kernel
theorem dL_law_312 : decode cL_law 312 = .ok (.iload 10, 2) := by decide +kernel
theorem dL_law_314 : decode cL_law 314 = .ok (.if_icmp .ne 62, 3) := by decide +kernel
theorem dL_law_317 : decode cL_law 317 = .ok (.aload_n 2, 1) := by decide +kernel
theorem dL_law_318 : decode cL_law 318 = .ok (.iload 11, 2) := by decide +kernel
theorem dL_law_320 : decode cL_law 320 = .ok (.sipush 997, 3) := by decide +kernel
theorem dL_law_323 : decode cL_law 323 = .ok (.irem, 1) := by decide +kernel
theorem dL_law_324 : decode cL_law 324 = .ok (.invokestatic 167, 3) := by decide +kernel
theorem dL_law_327 : decode cL_law 327 = .ok (.ifCond .eq 49, 3) := by decide +kernel
theorem dL_law_330 : decode cL_law 330 = .ok (.aload_n 1, 1) := by decide +kernel
theorem dL_law_331 : decode cL_law 331 = .ok (.iconst 0, 1) := by decide +kernel
theorem dL_law_332 : decode cL_law 332 = .ok (.bipush 9, 2) := by decide +kernel
theorem dL_law_334 : decode cL_law 334 = .ok (.invokestatic 128, 3) := by decide +kernel
theorem dL_law_337 : decode cL_law 337 = .ok (.ifCond .le 39, 3) := by decide +kernel
theorem dL_law_340 : decode cL_law 340 = .ok (.aload_n 1, 1) := by decide +kernel
theorem dL_law_341 : decode cL_law 341 = .ok (.iconst 0, 1) := by decide +kernel
theorem dL_law_342 : decode cL_law 342 = .ok (.invokestatic 140, 3) := by decide +kernel
theorem dL_law_345 : decode cL_law 345 = .ok (.iload 10, 2) := by decide +kernel
theorem dL_law_347 : decode cL_law 347 = .ok (.if_icmp .ne 29, 3) := by decide +kernel
theorem dL_law_350 : decode cL_law 350 = .ok (.aload_n 1, 1) := by decide +kernel
theorem dL_law_351 : decode cL_law 351 = .ok (.iconst 0, 1) := by decide +kernel
theorem dL_law_352 : decode cL_law 352 = .ok (.bipush 40, 2) := by decide +kernel
theorem dL_law_354 : decode cL_law 354 = .ok (.iconst 0, 1) := by decide +kernel
theorem dL_law_355 : decode cL_law 355 = .ok (.invokestatic 146, 3) := by decide +kernel
theorem dL_law_358 : decode cL_law 358 = .ok (.iload 9, 2) := by decide +kernel
theorem dL_law_360 : decode cL_law 360 = .ok (.if_icmp .ne 16, 3) := by decide +kernel
theorem dL_law_363 : decode cL_law 363 = .ok (.aload_n 1, 1) := by decide +kernel
theorem dL_law_364 : decode cL_law 364 = .ok (.invokevirtual 152, 3) := by decide +kernel
theorem dL_law_367 : decode cL_law 367 = .ok (.iload 10, 2) := by decide +kernel
theorem dL_law_369 : decode cL_law 369 = .ok (.if_icmp .ne 7, 3) := by decide +kernel
theorem dL_law_372 : decode cL_law 372 = .ok (.iconst 1, 1) := by decide +kernel
theorem dL_law_373 : decode cL_law 373 = .ok (.goto 4, 3) := by decide +kernel
theorem dL_law_376 : decode cL_law 376 = .ok (.iconst 0, 1) := by decide +kernel
theorem dL_law_377 : decode cL_law 377 = .ok (.istore 8, 2) := by decide +kernel
theorem dL_law_379 : decode cL_law 379 = .ok (.iload 8, 2) := by decide +kernel
theorem dL_law_381 : decode cL_law 381 = .ok (.ifCond .eq 12, 3) := by decide +kernel
theorem dL_law_384 : decode cL_law 384 = .ok (.aload_n 2, 1) := by decide +kernel
theorem dL_law_385 : decode cL_law 385 = .ok (.iload 11, 2) := by decide +kernel
theorem dL_law_387 : decode cL_law 387 = .ok (.invokestatic 171, 3) := by decide +kernel
theorem dL_law_390 : decode cL_law 390 = .ok (.goto 4, 3) := by decide +kernel
theorem dL_law_393 : decode cL_law 393 = .ok (.iconst 0, 1) := by decide +kernel
theorem dL_law_394 : decode cL_law 394 = .ok (.istore 15, 2) := by decide +kernel
theorem dL_law_396 : decode cL_law 396 = .ok (.iload 8, 2) := by decide +kernel
theorem dL_law_398 : decode cL_law 398 = .ok (.ifCond .eq 65, 3) := by decide +kernel
theorem dL_law_401 : decode cL_law 401 = .ok (.aload_n 2, 1) := by decide +kernel
theorem dL_law_402 : decode cL_law 402 = .ok (.iload 15, 2) := by decide +kernel
theorem dL_law_404 : decode cL_law 404 = .ok (.invokestatic 140, 3) := by decide +kernel
theorem dL_law_407 : decode cL_law 407 = .ok (.iload 10, 2) := by decide +kernel
theorem dL_law_409 : decode cL_law 409 = .ok (.if_icmp .ne 54, 3) := by decide +kernel
theorem dL_law_412 : decode cL_law 412 = .ok (.aload_n 2, 1) := by decide +kernel
theorem dL_law_413 : decode cL_law 413 = .ok (.iload 11, 2) := by decide +kernel
theorem dL_law_415 : decode cL_law 415 = .ok (.sipush 499, 3) := by decide +kernel
theorem dL_law_418 : decode cL_law 418 = .ok (.irem, 1) := by decide +kernel
theorem dL_law_419 : decode cL_law 419 = .ok (.invokestatic 167, 3) := by decide +kernel
theorem dL_law_422 : decode cL_law 422 = .ok (.ifCond .eq 41, 3) := by decide +kernel
theorem dL_law_425 : decode cL_law 425 = .ok (.aload_n 2, 1) := by decide +kernel
theorem dL_law_426 : decode cL_law 426 = .ok (.iload 11, 2) := by decide +kernel
theorem dL_law_428 : decode cL_law 428 = .ok (.bipush 7, 2) := by decide +kernel
theorem dL_law_430 : decode cL_law 430 = .ok (.idiv, 1) := by decide +kernel
theorem dL_law_431 : decode cL_law 431 = .ok (.iconst 0, 1) := by decide +kernel
theorem dL_law_432 : decode cL_law 432 = .ok (.invokestatic 174, 3) := by decide +kernel
theorem dL_law_435 : decode cL_law 435 = .ok (.iload 9, 2) := by decide +kernel
theorem dL_law_437 : decode cL_law 437 = .ok (.if_icmp .ne 26, 3) := by decide +kernel
theorem dL_law_440 : decode cL_law 440 = .ok (.aload_n 1, 1) := by decide +kernel
theorem dL_law_441 : decode cL_law 441 = .ok (.aload_n 2, 1) := by decide +kernel
theorem dL_law_442 : decode cL_law 442 = .ok (.invokestatic 178, 3) := by decide +kernel
theorem dL_law_445 : decode cL_law 445 = .ok (.ifCond .eq 18, 3) := by decide +kernel
theorem dL_law_448 : decode cL_law 448 = .ok (.aload_n 2, 1) := by decide +kernel
theorem dL_law_449 : decode cL_law 449 = .ok (.iload 10, 2) := by decide +kernel
theorem dL_law_451 : decode cL_law 451 = .ok (.invokestatic 124, 3) := by decide +kernel
theorem dL_law_454 : decode cL_law 454 = .ok (.iload 9, 2) := by decide +kernel
theorem dL_law_456 : decode cL_law 456 = .ok (.if_icmp .ne 7, 3) := by decide +kernel
theorem dL_law_459 : decode cL_law 459 = .ok (.iconst 1, 1) := by decide +kernel
theorem dL_law_460 : decode cL_law 460 = .ok (.goto 4, 3) := by decide +kernel
theorem dL_law_463 : decode cL_law 463 = .ok (.iconst 0, 1) := by decide +kernel
theorem dL_law_464 : decode cL_law 464 = .ok (.istore 8, 2) := by decide +kernel
theorem dL_law_466 : decode cL_law 466 = .ok (.iinc 10 1, 3) := by decide +kernel
theorem dL_law_469 : decode cL_law 469 = .ok (.goto (-273), 3) := by decide +kernel
theorem dL_law_472 : decode cL_law 472 = .ok (.iconst 0, 1) := by decide +kernel
theorem dL_law_473 : decode cL_law 473 = .ok (.istore 10, 2) := by decide +kernel
theorem dL_law_475 : decode cL_law 475 = .ok (.iload 10, 2) := by decide +kernel
theorem dL_law_477 : decode cL_law 477 = .ok (.bipush 40, 2) := by decide +kernel
theorem dL_law_479 : decode cL_law 479 = .ok (.if_icmp .ge 94, 3) := by decide +kernel
theorem dL_law_482 : decode cL_law 482 = .ok (.iload 8, 2) := by decide +kernel
theorem dL_law_484 : decode cL_law 484 = .ok (.ifCond .eq 89, 3) := by decide +kernel
theorem dL_law_487 : decode cL_law 487 = .ok (.aload_n 1, 1) := by decide +kernel
theorem dL_law_488 : decode cL_law 488 = .ok (.iload 10, 2) := by decide +kernel
theorem dL_law_490 : decode cL_law 490 = .ok (.invokestatic 122, 3) := by decide +kernel
theorem dL_law_493 : decode cL_law 493 = .ok (.ifCond .lt 67, 3) := by decide +kernel
theorem dL_law_496 : decode cL_law 496 = .ok (.aload_n 1, 1) := by decide +kernel
theorem dL_law_497 : decode cL_law 497 = .ok (.iload 10, 2) := by decide +kernel
theorem dL_law_499 : decode cL_law 499 = .ok (.iconst 0, 1) := by decide +kernel
theorem dL_law_500 : decode cL_law 500 = .ok (.iconst 0, 1) := by decide +kernel
theorem dL_law_501 : decode cL_law 501 = .ok (.invokestatic 126, 3) := by decide +kernel
theorem dL_law_504 : decode cL_law 504 = .ok (.aload 6, 2) := by decide +kernel
theorem dL_law_506 : decode cL_law 506 = .ok (.iload 10, 2) := by decide +kernel
theorem dL_law_508 : decode cL_law 508 = .ok (.iaload, 1) := by decide +kernel
theorem dL_law_509 : decode cL_law 509 = .ok (.if_icmp .ne 55, 3) := by decide +kernel
theorem dL_law_512 : decode cL_law 512 = .ok (.aload_n 2, 1) := by decide +kernel
theorem dL_law_513 : decode cL_law 513 = .ok (.iload 10, 2) := by decide +kernel
theorem dL_law_515 : decode cL_law 515 = .ok (.iconst 1, 1) := by decide +kernel
theorem dL_law_516 : decode cL_law 516 = .ok (.iconst 0, 1) := by decide +kernel
theorem dL_law_517 : decode cL_law 517 = .ok (.invokestatic 126, 3) := by decide +kernel
theorem dL_law_520 : decode cL_law 520 = .ok (.aload 7, 2) := by decide +kernel
theorem dL_law_522 : decode cL_law 522 = .ok (.iload 10, 2) := by decide +kernel
theorem dL_law_524 : decode cL_law 524 = .ok (.iaload, 1) := by decide +kernel
theorem dL_law_525 : decode cL_law 525 = .ok (.if_icmp .ne 39, 3) := by decide +kernel
theorem dL_law_528 : decode cL_law 528 = .ok (.aload_n 1, 1) := by decide +kernel
theorem dL_law_529 : decode cL_law 529 = .ok (.iload 10, 2) := by decide +kernel
theorem dL_law_531 : decode cL_law 531 = .ok (.iconst 2, 1) := by decide +kernel
theorem dL_law_532 : decode cL_law 532 = .ok (.iconst 0, 1) := by decide +kernel
theorem dL_law_533 : decode cL_law 533 = .ok (.invokestatic 126, 3) := by decide +kernel
theorem dL_law_536 : decode cL_law 536 = .ok (.iload 10, 2) := by decide +kernel
theorem dL_law_538 : decode cL_law 538 = .ok (.if_icmp .ne 26, 3) := by decide +kernel
theorem dL_law_541 : decode cL_law 541 = .ok (.aload_n 2, 1) := by decide +kernel
theorem dL_law_542 : decode cL_law 542 = .ok (.iload 10, 2) := by decide +kernel
theorem dL_law_544 : decode cL_law 544 = .ok (.iconst 2, 1) := by decide +kernel
theorem dL_law_545 : decode cL_law 545 = .ok (.iload 5, 2) := by decide +kernel
theorem dL_law_547 : decode cL_law 547 = .ok (.invokestatic 126, 3) := by decide +kernel
theorem dL_law_550 : decode cL_law 550 = .ok (.aload_n 1, 1) := by decide +kernel
theorem dL_law_551 : decode cL_law 551 = .ok (.iload 10, 2) := by decide +kernel
theorem dL_law_553 : decode cL_law 553 = .ok (.iconst 2, 1) := by decide +kernel
theorem dL_law_554 : decode cL_law 554 = .ok (.invokestatic 119, 3) := by decide +kernel
theorem dL_law_557 : decode cL_law 557 = .ok (.if_icmp .ne 7, 3) := by decide +kernel
theorem dL_law_560 : decode cL_law 560 = .ok (.iconst 1, 1) := by decide +kernel
theorem dL_law_561 : decode cL_law 561 = .ok (.goto 4, 3) := by decide +kernel
theorem dL_law_564 : decode cL_law 564 = .ok (.iconst 0, 1) := by decide +kernel
theorem dL_law_565 : decode cL_law 565 = .ok (.istore 8, 2) := by decide +kernel
theorem dL_law_567 : decode cL_law 567 = .ok (.iinc 10 1, 3) := by decide +kernel
theorem dL_law_570 : decode cL_law 570 = .ok (.goto (-95), 3) := by decide +kernel
theorem dL_law_573 : decode cL_law 573 = .ok (.iload 5, 2) := by decide +kernel
theorem dL_law_575 : decode cL_law 575 = .ok (.istore 10, 2) := by decide +kernel
theorem dL_law_577 : decode cL_law 577 = .ok (.iload 10, 2) := by decide +kernel
theorem dL_law_579 : decode cL_law 579 = .ok (.iconst 1, 1) := by decide +kernel
theorem dL_law_580 : decode cL_law 580 = .ok (.if_icmp .lt 131, 3) := by decide +kernel
theorem dL_law_583 : decode cL_law 583 = .ok (.iload 8, 2) := by decide +kernel
theorem dL_law_585 : decode cL_law 585 = .ok (.ifCond .eq 126, 3) := by decide +kernel
theorem dL_law_588 : decode cL_law 588 = .ok (.aload_n 0, 1) := by decide +kernel
theorem dL_law_589 : decode cL_law 589 = .ok (.bipush 30, 2) := by decide +kernel
theorem dL_law_591 : decode cL_law 591 = .ok (.iload 10, 2) := by decide +kernel
theorem dL_law_593 : decode cL_law 593 = .ok (.iadd, 1) := by decide +kernel
theorem dL_law_594 : decode cL_law 594 = .ok (.invokestatic 163, 3) := by decide +kernel
theorem dL_law_597 : decode cL_law 597 = .ok (.istore 11, 2) := by decide +kernel
theorem dL_law_599 : decode cL_law 599 = .ok (.aload_n 2, 1) := by decide +kernel
theorem dL_law_600 : decode cL_law 600 = .ok (.iload 11, 2) := by decide +kernel
theorem dL_law_602 : decode cL_law 602 = .ok (.invokestatic 171, 3) := by decide +kernel
theorem dL_law_605 : decode cL_law 605 = .ok (.istore 12, 2) := by decide +kernel
theorem dL_law_607 : decode cL_law 607 = .ok (.aload_n 1, 1) := by decide +kernel
theorem dL_law_608 : decode cL_law 608 = .ok (.iconst 0, 1) := by decide +kernel
theorem dL_law_609 : decode cL_law 609 = .ok (.bipush 9, 2) := by decide +kernel
theorem dL_law_611 : decode cL_law 611 = .ok (.invokestatic 128, 3) := by decide +kernel
theorem dL_law_614 : decode cL_law 614 = .ok (.ifCond .le 88, 3) := by decide +kernel
theorem dL_law_617 : decode cL_law 617 = .ok (.aload_n 1, 1) := by decide +kernel
theorem dL_law_618 : decode cL_law 618 = .ok (.iconst 0, 1) := by decide +kernel
theorem dL_law_619 : decode cL_law 619 = .ok (.invokestatic 143, 3) := by decide +kernel
theorem dL_law_622 : decode cL_law 622 = .ok (.iload 10, 2) := by decide +kernel
theorem dL_law_624 : decode cL_law 624 = .ok (.if_icmp .ne 78, 3) := by decide +kernel
theorem dL_law_627 : decode cL_law 627 = .ok (.aload_n 1, 1) := by decide +kernel
theorem dL_law_628 : decode cL_law 628 = .ok (.iconst 0, 1) := by decide +kernel
theorem dL_law_629 : decode cL_law 629 = .ok (.bipush 40, 2) := by decide +kernel
theorem dL_law_631 : decode cL_law 631 = .ok (.iconst 0, 1) := by decide +kernel
theorem dL_law_632 : decode cL_law 632 = .ok (.invokestatic 146, 3) := by decide +kernel
theorem dL_law_635 : decode cL_law 635 = .ok (.iload 9, 2) := by decide +kernel
theorem dL_law_637 : decode cL_law 637 = .ok (.if_icmp .ne 65, 3) := by decide +kernel
theorem dL_law_640 : decode cL_law 640 = .ok (.aload_n 2, 1) := by decide +kernel
theorem dL_law_641 : decode cL_law 641 = .ok (.iload 12, 2) := by decide +kernel
theorem dL_law_643 : decode cL_law 643 = .ok (.invokestatic 143, 3) := by decide +kernel
theorem dL_law_646 : decode cL_law 646 = .ok (.iload 10, 2) := by decide +kernel
theorem dL_law_648 : decode cL_law 648 = .ok (.if_icmp .ne 54, 3) := by decide +kernel
theorem dL_law_651 : decode cL_law 651 = .ok (.aload_n 2, 1) := by decide +kernel
theorem dL_law_652 : decode cL_law 652 = .ok (.iload 11, 2) := by decide +kernel
theorem dL_law_654 : decode cL_law 654 = .ok (.sipush 499, 3) := by decide +kernel
theorem dL_law_657 : decode cL_law 657 = .ok (.irem, 1) := by decide +kernel
theorem dL_law_658 : decode cL_law 658 = .ok (.invokestatic 167, 3) := by decide +kernel
theorem dL_law_661 : decode cL_law 661 = .ok (.ifCond .eq 41, 3) := by decide +kernel
theorem dL_law_664 : decode cL_law 664 = .ok (.aload_n 2, 1) := by decide +kernel
theorem dL_law_665 : decode cL_law 665 = .ok (.iload 11, 2) := by decide +kernel
theorem dL_law_667 : decode cL_law 667 = .ok (.bipush 7, 2) := by decide +kernel
theorem dL_law_669 : decode cL_law 669 = .ok (.idiv, 1) := by decide +kernel
theorem dL_law_670 : decode cL_law 670 = .ok (.iconst 1, 1) := by decide +kernel
theorem dL_law_671 : decode cL_law 671 = .ok (.invokestatic 174, 3) := by decide +kernel
theorem dL_law_674 : decode cL_law 674 = .ok (.iload 9, 2) := by decide +kernel
theorem dL_law_676 : decode cL_law 676 = .ok (.if_icmp .ne 26, 3) := by decide +kernel
theorem dL_law_679 : decode cL_law 679 = .ok (.aload_n 1, 1) := by decide +kernel
theorem dL_law_680 : decode cL_law 680 = .ok (.aload_n 2, 1) := by decide +kernel
theorem dL_law_681 : decode cL_law 681 = .ok (.invokestatic 178, 3) := by decide +kernel
theorem dL_law_684 : decode cL_law 684 = .ok (.ifCond .eq 18, 3) := by decide +kernel
theorem dL_law_687 : decode cL_law 687 = .ok (.aload_n 1, 1) := by decide +kernel
theorem dL_law_688 : decode cL_law 688 = .ok (.invokevirtual 152, 3) := by decide +kernel
theorem dL_law_691 : decode cL_law 691 = .ok (.iload 10, 2) := by decide +kernel
theorem dL_law_693 : decode cL_law 693 = .ok (.iconst 1, 1) := by decide +kernel
theorem dL_law_694 : decode cL_law 694 = .ok (.isub, 1) := by decide +kernel
theorem dL_law_695 : decode cL_law 695 = .ok (.if_icmp .ne 7, 3) := by decide +kernel
theorem dL_law_698 : decode cL_law 698 = .ok (.iconst 1, 1) := by decide +kernel
theorem dL_law_699 : decode cL_law 699 = .ok (.goto 4, 3) := by decide +kernel
theorem dL_law_702 : decode cL_law 702 = .ok (.iconst 0, 1) := by decide +kernel
theorem dL_law_703 : decode cL_law 703 = .ok (.istore 8, 2) := by decide +kernel
theorem dL_law_705 : decode cL_law 705 = .ok (.iinc 10 (-1), 3) := by decide +kernel
theorem dL_law_708 : decode cL_law 708 = .ok (.goto (-131), 3) := by decide +kernel
theorem dL_law_711 : decode cL_law 711 = .ok (.iconst 0, 1) := by decide +kernel
theorem dL_law_712 : decode cL_law 712 = .ok (.istore 10, 2) := by decide +kernel
theorem dL_law_714 : decode cL_law 714 = .ok (.iload 10, 2) := by decide +kernel
theorem dL_law_716 : decode cL_law 716 = .ok (.bipush 40, 2) := by decide +kernel
theorem dL_law_718 : decode cL_law 718 = .ok (.if_icmp .ge 81, 3) := by decide +kernel
theorem dL_law_721 : decode cL_law 721 = .ok (.iload 8, 2) := by decide +kernel
theorem dL_law_723 : decode cL_law 723 = .ok (.ifCond .eq 76, 3) := by decide +kernel
theorem dL_law_726 : decode cL_law 726 = .ok (.aload_n 1, 1) := by decide +kernel
theorem dL_law_727 : decode cL_law 727 = .ok (.iload 10, 2) := by decide +kernel
theorem dL_law_729 : decode cL_law 729 = .ok (.invokestatic 122, 3) := by decide +kernel
theorem dL_law_732 : decode cL_law 732 = .ok (.ifCond .lt 54, 3) := by decide +kernel
theorem dL_law_735 : decode cL_law 735 = .ok (.aload_n 1, 1) := by decide +kernel
theorem dL_law_736 : decode cL_law 736 = .ok (.iload 10, 2) := by decide +kernel
theorem dL_law_738 : decode cL_law 738 = .ok (.iconst 0, 1) := by decide +kernel
theorem dL_law_739 : decode cL_law 739 = .ok (.invokestatic 119, 3) := by decide +kernel
theorem dL_law_742 : decode cL_law 742 = .ok (.aload 6, 2) := by decide +kernel
theorem dL_law_744 : decode cL_law 744 = .ok (.iload 10, 2) := by decide +kernel
theorem dL_law_746 : decode cL_law 746 = .ok (.iaload, 1) := by decide +kernel
theorem dL_law_747 : decode cL_law 747 = .ok (.if_icmp .ne 43, 3) := by decide +kernel
theorem dL_law_750 : decode cL_law 750 = .ok (.aload_n 2, 1) := by decide +kernel
theorem dL_law_751 : decode cL_law 751 = .ok (.iload 10, 2) := by decide +kernel
theorem dL_law_753 : decode cL_law 753 = .ok (.iconst 1, 1) := by decide +kernel
theorem dL_law_754 : decode cL_law 754 = .ok (.invokestatic 119, 3) := by decide +kernel
theorem dL_law_757 : decode cL_law 757 = .ok (.aload 7, 2) := by decide +kernel
theorem dL_law_759 : decode cL_law 759 = .ok (.iload 10, 2) := by decide +kernel
theorem dL_law_761 : decode cL_law 761 = .ok (.iaload, 1) := by decide +kernel
theorem dL_law_762 : decode cL_law 762 = .ok (.if_icmp .ne 28, 3) := by decide +kernel
theorem dL_law_765 : decode cL_law 765 = .ok (.aload_n 1, 1) := by decide +kernel
theorem dL_law_766 : decode cL_law 766 = .ok (.iload 10, 2) := by decide +kernel
theorem dL_law_768 : decode cL_law 768 = .ok (.iconst 2, 1) := by decide +kernel
theorem dL_law_769 : decode cL_law 769 = .ok (.invokestatic 119, 3) := by decide +kernel
theorem dL_law_772 : decode cL_law 772 = .ok (.iload 10, 2) := by decide +kernel
theorem dL_law_774 : decode cL_law 774 = .ok (.if_icmp .ne 16, 3) := by decide +kernel
theorem dL_law_777 : decode cL_law 777 = .ok (.aload_n 2, 1) := by decide +kernel
theorem dL_law_778 : decode cL_law 778 = .ok (.iload 10, 2) := by decide +kernel
theorem dL_law_780 : decode cL_law 780 = .ok (.invokestatic 122, 3) := by decide +kernel
theorem dL_law_783 : decode cL_law 783 = .ok (.ifCond .ne 7, 3) := by decide +kernel
theorem dL_law_786 : decode cL_law 786 = .ok (.iconst 1, 1) := by decide +kernel
theorem dL_law_787 : decode cL_law 787 = .ok (.goto 4, 3) := by decide +kernel
theorem dL_law_790 : decode cL_law 790 = .ok (.iconst 0, 1) := by decide +kernel
theorem dL_law_791 : decode cL_law 791 = .ok (.istore 8, 2) := by decide +kernel
theorem dL_law_793 : decode cL_law 793 = .ok (.iinc 10 1, 3) := by decide +kernel
theorem dL_law_796 : decode cL_law 796 = .ok (.goto (-82), 3) := by decide +kernel
theorem dL_law_799 : decode cL_law 799 = .ok (.iload 8, 2) := by decide +kernel
theorem dL_law_801 : decode cL_law 801 = .ok (.ireturn, 1) := by decide +kernel
set_option maxRecDepth 20000 in
theorem ggL_ledgerWorker_X3_holder : GoodIn wsL_ledgerWorker wsX3_holder := goodIn_r _ [5, 6, 7, 8, 9, 10, 11, 12, 13, 14, 58, 59, 60, 61, 62, 63, 64, 65, 66, 67, 68] (by decide +kernel) (by decide +kernel)
set_option maxRecDepth 20000 in
theorem gL_ledgerWorker_X3_holder : GoodIn wsL_ledgerWorker (wsV RL 149 RX3 yX3_holder wsX3_holder) := goodIn_app (goodIn_of _ (by decide +kernel)) ggL_ledgerWorker_X3_holder
set_option maxRecDepth 20000 in
theorem ggL_ledgerWorker_L_restarts : GoodIn wsL_ledgerWorker wsL_restarts := goodIn_ca (goodIn_ca (goodIn_r _ [18, 19, 20, 21, 22, 23, 24, 25, 4, 26, 27, 28, 6, 29, 30, 31, 32, 33, 34, 35, 36, 10, 37, 38, 39, 40, 41, 42, 7, 8, 9, 11, 12, 13, 14, 58, 59, 60, 61, 62, 63, 64, 65, 66, 67, 68] (by decide +kernel) (by decide +kernel)) (goodIn_sub (fun _ h => List.mem_cons_of_mem _ (List.mem_append_left _ (List.mem_append_right _ h))) (by decide +kernel))) (goodIn_sub (fun _ h => List.mem_cons_of_mem _ (List.mem_append_right _ h)) (by decide +kernel))
set_option maxRecDepth 20000 in
theorem gL_ledgerWorker_L_restarts : GoodIn wsL_ledgerWorker (va_wsS RL 134 yL_restarts wsL_restarts) := goodIn_app (goodIn_of _ (by decide +kernel)) ggL_ledgerWorker_L_restarts
set_option maxRecDepth 20000 in
theorem ggL_ledgerWorker_L_takes : GoodIn wsL_ledgerWorker wsL_takes := goodIn_ca (goodIn_ca (goodIn_r _ [45, 19, 20, 21, 22, 46, 47, 48, 4, 49, 32, 33, 27, 28, 6, 29, 30, 31, 50, 51, 52, 53, 34, 35, 36, 10, 37, 38, 7, 8, 9, 11, 12, 13, 14, 54, 55, 56, 57, 58, 59, 60, 61, 62, 63, 64, 65, 66, 67, 68] (by decide +kernel) (by decide +kernel)) (goodIn_sub (fun _ h => List.mem_cons_of_mem _ (List.mem_append_right _ h)) (by decide +kernel))) (goodIn_sub (fun _ h => List.mem_cons_of_mem _ (List.mem_append_left _ (List.mem_append_right _ h))) (by decide +kernel))
set_option maxRecDepth 20000 in
theorem gL_ledgerWorker_L_takes : GoodIn wsL_ledgerWorker (va_wsS RL 128 yL_takes wsL_takes) := goodIn_app (goodIn_of _ (by decide +kernel)) ggL_ledgerWorker_L_takes
theorem dL_ledgerWorker_0 : decode cL_ledgerWorker 0 = .ok (.aload_n 0, 1) := by decide +kernel
theorem dL_ledgerWorker_1 : decode cL_ledgerWorker 1 = .ok (.invokevirtual 149, 3) := by decide +kernel
theorem dL_ledgerWorker_4 : decode cL_ledgerWorker 4 = .ok (.istore_n 2, 1) := by decide +kernel
theorem dL_ledgerWorker_5 : decode cL_ledgerWorker 5 = .ok (.iload_n 2, 1) := by decide +kernel
theorem dL_ledgerWorker_6 : decode cL_ledgerWorker 6 = .ok (.ifCond .ge 7, 3) := by decide +kernel
theorem dL_ledgerWorker_9 : decode cL_ledgerWorker 9 = .ok (.iload_n 1, 1) := by decide +kernel
theorem dL_ledgerWorker_10 : decode cL_ledgerWorker 10 = .ok (.iconst 4, 1) := by decide +kernel
theorem dL_ledgerWorker_11 : decode cL_ledgerWorker 11 = .ok (.irem, 1) := by decide +kernel
theorem dL_ledgerWorker_12 : decode cL_ledgerWorker 12 = .ok (.istore_n 2, 1) := by decide +kernel
theorem dL_ledgerWorker_13 : decode cL_ledgerWorker 13 = .ok (.aload_n 0, 1) := by decide +kernel
theorem dL_ledgerWorker_14 : decode cL_ledgerWorker 14 = .ok (.iload_n 2, 1) := by decide +kernel
theorem dL_ledgerWorker_15 : decode cL_ledgerWorker 15 = .ok (.invokestatic 134, 3) := by decide +kernel
theorem dL_ledgerWorker_18 : decode cL_ledgerWorker 18 = .ok (.pop, 1) := by decide +kernel
theorem dL_ledgerWorker_19 : decode cL_ledgerWorker 19 = .ok (.aload_n 0, 1) := by decide +kernel
theorem dL_ledgerWorker_20 : decode cL_ledgerWorker 20 = .ok (.iload_n 2, 1) := by decide +kernel
theorem dL_ledgerWorker_21 : decode cL_ledgerWorker 21 = .ok (.iconst 3, 1) := by decide +kernel
theorem dL_ledgerWorker_22 : decode cL_ledgerWorker 22 = .ok (.invokestatic 128, 3) := by decide +kernel
theorem dL_ledgerWorker_25 : decode cL_ledgerWorker 25 = .ok (.ifCond .le 7, 3) := by decide +kernel
theorem dL_ledgerWorker_28 : decode cL_ledgerWorker 28 = .ok (.iload_n 2, 1) := by decide +kernel
theorem dL_ledgerWorker_29 : decode cL_ledgerWorker 29 = .ok (.goto 4, 3) := by decide +kernel
theorem dL_ledgerWorker_32 : decode cL_ledgerWorker 32 = .ok (.iconst (-1), 1) := by decide +kernel
theorem dL_ledgerWorker_33 : decode cL_ledgerWorker 33 = .ok (.ireturn, 1) := by decide +kernel
