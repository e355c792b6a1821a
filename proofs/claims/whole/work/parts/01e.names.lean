theorem dX3_requireId_0 : decode cX3_requireId 0 = .ok (.iload_n 0, 1) := by decide +kernel
theorem dX3_requireId_1 : decode cX3_requireId 1 = .ok (.ifCond .lt 9, 3) := by decide +kernel
theorem dX3_requireId_4 : decode cX3_requireId 4 = .ok (.iload_n 0, 1) := by decide +kernel
theorem dX3_requireId_5 : decode cX3_requireId 5 = .ok (.bipush 40, 2) := by decide +kernel
theorem dX3_requireId_7 : decode cX3_requireId 7 = .ok (.if_icmp .lt 14, 3) := by decide +kernel
theorem dX3_requireId_10 : decode cX3_requireId 10 = .ok (.new 122, 3) := by decide +kernel
theorem dX3_requireId_13 : decode cX3_requireId 13 = .ok (.dup, 1) := by decide +kernel
theorem dX3_requireId_14 : decode cX3_requireId 14 = .ok (.ldc_w 263, 3) := by decide +kernel
theorem dX3_requireId_17 : decode cX3_requireId 17 = .ok (.invokespecial 126, 3) := by decide +kernel
theorem dX3_requireId_20 : decode cX3_requireId 20 = .ok (.athrow, 1) := by decide +kernel
theorem dX3_requireId_21 : decode cX3_requireId 21 = .ok (.return_, 1) := by decide +kernel
set_option maxRecDepth 20000 in
theorem ggX3_requireTableValue_X3_isTableValue : GoodIn wsX3_requireTableValue wsX3_isTableValue := goodIn_r _ [6, 7, 8] (by decide +kernel) (by decide +kernel)
set_option maxRecDepth 20000 in
theorem gX3_requireTableValue_X3_isTableValue : GoodIn wsX3_requireTableValue (va_wsS RX3 265 yX3_isTableValue wsX3_isTableValue) := goodIn_app (goodIn_of _ (by decide +kernel)) ggX3_requireTableValue_X3_isTableValue
theorem dX3_requireTableValue_0 : decode cX3_requireTableValue 0 = .ok (.iload_n 0, 1) := by decide +kernel
theorem dX3_requireTableValue_1 : decode cX3_requireTableValue 1 = .ok (.i2l, 1) := by decide +kernel
theorem dX3_requireTableValue_2 : decode cX3_requireTableValue 2 = .ok (.invokestatic 265, 3) := by decide +kernel
theorem dX3_requireTableValue_5 : decode cX3_requireTableValue 5 = .ok (.ifCond .ne 14, 3) := by decide +kernel
theorem dX3_requireTableValue_8 : decode cX3_requireTableValue 8 = .ok (.new 122, 3) := by decide +kernel
theorem dX3_requireTableValue_11 : decode cX3_requireTableValue 11 = .ok (.dup, 1) := by decide +kernel
theorem dX3_requireTableValue_12 : decode cX3_requireTableValue 12 = .ok (.ldc_w 269, 3) := by decide +kernel
theorem dX3_requireTableValue_15 : decode cX3_requireTableValue 15 = .ok (.invokespecial 126, 3) := by decide +kernel
theorem dX3_requireTableValue_18 : decode cX3_requireTableValue 18 = .ok (.athrow, 1) := by decide +kernel
theorem dX3_requireTableValue_19 : decode cX3_requireTableValue 19 = .ok (.return_, 1) := by decide +kernel
theorem dX3_requireWorker_0 : decode cX3_requireWorker 0 = .ok (.iload_n 0, 1) := by decide +kernel
theorem dX3_requireWorker_1 : decode cX3_requireWorker 1 = .ok (.ifCond .lt 8, 3) := by decide +kernel
theorem dX3_requireWorker_4 : decode cX3_requireWorker 4 = .ok (.iload_n 0, 1) := by decide +kernel
theorem dX3_requireWorker_5 : decode cX3_requireWorker 5 = .ok (.iconst 4, 1) := by decide +kernel
theorem dX3_requireWorker_6 : decode cX3_requireWorker 6 = .ok (.if_icmp .lt 14, 3) := by decide +kernel
theorem dX3_requireWorker_9 : decode cX3_requireWorker 9 = .ok (.new 122, 3) := by decide +kernel
theorem dX3_requireWorker_12 : decode cX3_requireWorker 12 = .ok (.dup, 1) := by decide +kernel
theorem dX3_requireWorker_13 : decode cX3_requireWorker 13 = .ok (.ldc_w 271, 3) := by decide +kernel
theorem dX3_requireWorker_16 : decode cX3_requireWorker 16 = .ok (.invokespecial 126, 3) := by decide +kernel
theorem dX3_requireWorker_19 : decode cX3_requireWorker 19 = .ok (.athrow, 1) := by decide +kernel
theorem dX3_requireWorker_20 : decode cX3_requireWorker 20 = .ok (.return_, 1) := by decide +kernel
set_option maxRecDepth 20000 in
theorem ggX3_requireListed_X0_contains : GoodIn wsX3_requireListed wsX0_contains := goodIn_r _ [8, 9, 17, 18, 19, 20, 21] (by decide +kernel) (by decide +kernel)
set_option maxRecDepth 20000 in
theorem gX3_requireListed_X0_contains : GoodIn wsX3_requireListed (wsV RX3 273 RX0 yX0_contains wsX0_contains) := goodIn_app (goodIn_of _ (by decide +kernel)) ggX3_requireListed_X0_contains
theorem dX3_requireListed_0 : decode cX3_requireListed 0 = .ok (.aload_n 0, 1) := by decide +kernel
theorem dX3_requireListed_1 : decode cX3_requireListed 1 = .ok (.getfield 10, 3) := by decide +kernel
theorem dX3_requireListed_4 : decode cX3_requireListed 4 = .ok (.iload_n 1, 1) := by decide +kernel
theorem dX3_requireListed_5 : decode cX3_requireListed 5 = .ok (.invokevirtual 273, 3) := by decide +kernel
theorem dX3_requireListed_8 : decode cX3_requireListed 8 = .ok (.ifCond .ne 14, 3) := by decide +kernel
theorem dX3_requireListed_11 : decode cX3_requireListed 11 = .ok (.new 276, 3) := by decide +kernel
theorem dX3_requireListed_14 : decode cX3_requireListed 14 = .ok (.dup, 1) := by decide +kernel
theorem dX3_requireListed_15 : decode cX3_requireListed 15 = .ok (.ldc_w 278, 3) := by decide +kernel
theorem dX3_requireListed_18 : decode cX3_requireListed 18 = .ok (.invokespecial 280, 3) := by decide +kernel
theorem dX3_requireListed_21 : decode cX3_requireListed 21 = .ok (.athrow, 1) := by decide +kernel
theorem dX3_requireListed_22 : decode cX3_requireListed 22 = .ok (.return_, 1) := by decide +kernel
set_option maxRecDepth 20000 in
theorem ggX3_requirePresent_X2_isPresent : GoodIn wsX3_requirePresent wsX2_isPresent := goodIn_r _ [8, 9, 17, 18] (by decide +kernel) (by decide +kernel)
set_option maxRecDepth 20000 in
theorem gX3_requirePresent_X2_isPresent : GoodIn wsX3_requirePresent (wsV RX3 93 RX2 yX2_isPresent wsX2_isPresent) := goodIn_app (goodIn_of _ (by decide +kernel)) ggX3_requirePresent_X2_isPresent
theorem dX3_requirePresent_0 : decode cX3_requirePresent 0 = .ok (.aload_n 0, 1) := by decide +kernel
theorem dX3_requirePresent_1 : decode cX3_requirePresent 1 = .ok (.getfield 19, 3) := by decide +kernel
theorem dX3_requirePresent_4 : decode cX3_requirePresent 4 = .ok (.iload_n 1, 1) := by decide +kernel
theorem dX3_requirePresent_5 : decode cX3_requirePresent 5 = .ok (.invokevirtual 93, 3) := by decide +kernel
theorem dX3_requirePresent_8 : decode cX3_requirePresent 8 = .ok (.ifCond .ne 14, 3) := by decide +kernel
theorem dX3_requirePresent_11 : decode cX3_requirePresent 11 = .ok (.new 276, 3) := by decide +kernel
theorem dX3_requirePresent_14 : decode cX3_requirePresent 14 = .ok (.dup, 1) := by decide +kernel
theorem dX3_requirePresent_15 : decode cX3_requirePresent 15 = .ok (.ldc_w 281, 3) := by decide +kernel
theorem dX3_requirePresent_18 : decode cX3_requirePresent 18 = .ok (.invokespecial 280, 3) := by decide +kernel
theorem dX3_requirePresent_21 : decode cX3_requirePresent 21 = .ok (.athrow, 1) := by decide +kernel
theorem dX3_requirePresent_22 : decode cX3_requirePresent 22 = .ok (.return_, 1) := by decide +kernel
set_option maxRecDepth 20000 in
theorem ggX3_requireNotCrashed_X1_hasCrashed : GoodIn wsX3_requireNotCrashed wsX1_hasCrashed := goodIn_r _ [8, 9, 17, 18, 19, 20] (by decide +kernel) (by decide +kernel)
set_option maxRecDepth 20000 in
theorem gX3_requireNotCrashed_X1_hasCrashed : GoodIn wsX3_requireNotCrashed (wsV RX3 164 RX1 yX1_hasCrashed wsX1_hasCrashed) := goodIn_app (goodIn_of _ (by decide +kernel)) ggX3_requireNotCrashed_X1_hasCrashed
theorem dX3_requireNotCrashed_0 : decode cX3_requireNotCrashed 0 = .ok (.aload_n 0, 1) := by decide +kernel
theorem dX3_requireNotCrashed_1 : decode cX3_requireNotCrashed 1 = .ok (.getfield 26, 3) := by decide +kernel
theorem dX3_requireNotCrashed_4 : decode cX3_requireNotCrashed 4 = .ok (.iload_n 1, 1) := by decide +kernel
theorem dX3_requireNotCrashed_5 : decode cX3_requireNotCrashed 5 = .ok (.invokevirtual 164, 3) := by decide +kernel
theorem dX3_requireNotCrashed_8 : decode cX3_requireNotCrashed 8 = .ok (.ifCond .eq 14, 3) := by decide +kernel
theorem dX3_requireNotCrashed_11 : decode cX3_requireNotCrashed 11 = .ok (.new 46, 3) := by decide +kernel
theorem dX3_requireNotCrashed_14 : decode cX3_requireNotCrashed 14 = .ok (.dup, 1) := by decide +kernel
theorem dX3_requireNotCrashed_15 : decode cX3_requireNotCrashed 15 = .ok (.ldc_w 283, 3) := by decide +kernel
theorem dX3_requireNotCrashed_18 : decode cX3_requireNotCrashed 18 = .ok (.invokespecial 50, 3) := by decide +kernel
theorem dX3_requireNotCrashed_21 : decode cX3_requireNotCrashed 21 = .ok (.athrow, 1) := by decide +kernel
theorem dX3_requireNotCrashed_22 : decode cX3_requireNotCrashed 22 = .ok (.return_, 1) := by decide +kernel
set_option maxRecDepth 20000 in
theorem ggX3_requireAtWork_X3_requireNotCrashed : GoodIn wsX3_requireAtWork wsX3_requireNotCrashed := goodIn_ca (goodIn_r _ [8, 1, 2, 3, 9, 10, 11, 12, 13, 14, 22, 23, 24, 25, 26, 27, 28, 29, 30, 31, 32] (by decide +kernel) (by decide +kernel)) (goodIn_sub (fun _ h => List.mem_cons_of_mem _ (List.mem_append_right _ h)) (by decide +kernel))
set_option maxRecDepth 20000 in
theorem gX3_requireAtWork_X3_requireNotCrashed : GoodIn wsX3_requireAtWork (wsV RX3 147 RX3 yX3_requireNotCrashed wsX3_requireNotCrashed) := goodIn_app (goodIn_of _ (by decide +kernel)) ggX3_requireAtWork_X3_requireNotCrashed
set_option maxRecDepth 20000 in
theorem ggX3_requireAtWork_X1_owner : GoodIn wsX3_requireAtWork wsX1_owner := goodIn_r _ [18, 19, 20, 21, 29, 30, 31, 32] (by decide +kernel) (by decide +kernel)
set_option maxRecDepth 20000 in
theorem gX3_requireAtWork_X1_owner : GoodIn wsX3_requireAtWork (wsV RX3 150 RX1 yX1_owner wsX1_owner) := goodIn_app (goodIn_of _ (by decide +kernel)) ggX3_requireAtWork_X1_owner
theorem dX3_requireAtWork_0 : decode cX3_requireAtWork 0 = .ok (.aload_n 0, 1) := by decide +kernel
theorem dX3_requireAtWork_1 : decode cX3_requireAtWork 1 = .ok (.iload_n 1, 1) := by decide +kernel
theorem dX3_requireAtWork_2 : decode cX3_requireAtWork 2 = .ok (.invokevirtual 147, 3) := by decide +kernel
theorem dX3_requireAtWork_5 : decode cX3_requireAtWork 5 = .ok (.aload_n 0, 1) := by decide +kernel
theorem dX3_requireAtWork_6 : decode cX3_requireAtWork 6 = .ok (.getfield 26, 3) := by decide +kernel
theorem dX3_requireAtWork_9 : decode cX3_requireAtWork 9 = .ok (.invokevirtual 150, 3) := by decide +kernel
theorem dX3_requireAtWork_12 : decode cX3_requireAtWork 12 = .ok (.iload_n 1, 1) := by decide +kernel
theorem dX3_requireAtWork_13 : decode cX3_requireAtWork 13 = .ok (.if_icmp .eq 14, 3) := by decide +kernel
theorem dX3_requireAtWork_16 : decode cX3_requireAtWork 16 = .ok (.new 46, 3) := by decide +kernel
theorem dX3_requireAtWork_19 : decode cX3_requireAtWork 19 = .ok (.dup, 1) := by decide +kernel
theorem dX3_requireAtWork_20 : decode cX3_requireAtWork 20 = .ok (.ldc_w 285, 3) := by decide +kernel
theorem dX3_requireAtWork_23 : decode cX3_requireAtWork 23 = .ok (.invokespecial 50, 3) := by decide +kernel
theorem dX3_requireAtWork_26 : decode cX3_requireAtWork 26 = .ok (.athrow, 1) := by decide +kernel
theorem dX3_requireAtWork_27 : decode cX3_requireAtWork 27 = .ok (.return_, 1) := by decide +kernel
set_option maxRecDepth 20000 in
theorem ggX3_requireActive_X3_isActive : GoodIn wsX3_requireActive wsX3_isActive := goodIn_r _ [7, 8, 9, 10, 11, 12, 13, 14, 15] (by decide +kernel) (by decide +kernel)
set_option maxRecDepth 20000 in
theorem gX3_requireActive_X3_isActive : GoodIn wsX3_requireActive (wsV RX3 61 RX3 yX3_isActive wsX3_isActive) := goodIn_app (goodIn_of _ (by decide +kernel)) ggX3_requireActive_X3_isActive
theorem dX3_requireActive_0 : decode cX3_requireActive 0 = .ok (.aload_n 0, 1) := by decide +kernel
theorem dX3_requireActive_1 : decode cX3_requireActive 1 = .ok (.invokevirtual 61, 3) := by decide +kernel
theorem dX3_requireActive_4 : decode cX3_requireActive 4 = .ok (.ifCond .ne 14, 3) := by decide +kernel
theorem dX3_requireActive_7 : decode cX3_requireActive 7 = .ok (.new 46, 3) := by decide +kernel
theorem dX3_requireActive_10 : decode cX3_requireActive 10 = .ok (.dup, 1) := by decide +kernel
theorem dX3_requireActive_11 : decode cX3_requireActive 11 = .ok (.ldc_w 287, 3) := by decide +kernel
theorem dX3_requireActive_14 : decode cX3_requireActive 14 = .ok (.invokespecial 50, 3) := by decide +kernel
theorem dX3_requireActive_17 : decode cX3_requireActive 17 = .ok (.athrow, 1) := by decide +kernel
theorem dX3_requireActive_18 : decode cX3_requireActive 18 = .ok (.return_, 1) := by decide +kernel
set_option maxRecDepth 20000 in
theorem ggX3_requireUndoableDone_X0_hasDrifted : GoodIn wsX3_requireUndoableDone wsX0_hasDrifted := goodIn_r _ [9, 10, 11, 12, 13, 8, 14, 15, 16, 17, 18, 26, 27, 28, 29, 30] (by decide +kernel) (by decide +kernel)
set_option maxRecDepth 20000 in
theorem gX3_requireUndoableDone_X0_hasDrifted : GoodIn wsX3_requireUndoableDone (wsV RX3 291 RX0 yX0_hasDrifted wsX0_hasDrifted) := goodIn_app (goodIn_of _ (by decide +kernel)) ggX3_requireUndoableDone_X0_hasDrifted
theorem dX3_requireUndoableDone_0 : decode cX3_requireUndoableDone 0 = .ok (.aload_n 0, 1) := by decide +kernel
theorem dX3_requireUndoableDone_1 : decode cX3_requireUndoableDone 1 = .ok (.getfield 81, 3) := by decide +kernel
theorem dX3_requireUndoableDone_4 : decode cX3_requireUndoableDone 4 = .ok (.ifCond .ne 14, 3) := by decide +kernel
theorem dX3_requireUndoableDone_7 : decode cX3_requireUndoableDone 7 = .ok (.new 46, 3) := by decide +kernel
theorem dX3_requireUndoableDone_10 : decode cX3_requireUndoableDone 10 = .ok (.dup, 1) := by decide +kernel
theorem dX3_requireUndoableDone_11 : decode cX3_requireUndoableDone 11 = .ok (.ldc_w 289, 3) := by decide +kernel
theorem dX3_requireUndoableDone_14 : decode cX3_requireUndoableDone 14 = .ok (.invokespecial 50, 3) := by decide +kernel
theorem dX3_requireUndoableDone_17 : decode cX3_requireUndoableDone 17 = .ok (.athrow, 1) := by decide +kernel
theorem dX3_requireUndoableDone_18 : decode cX3_requireUndoableDone 18 = .ok (.aload_n 0, 1) := by decide +kernel
theorem dX3_requireUndoableDone_19 : decode cX3_requireUndoableDone 19 = .ok (.getfield 10, 3) := by decide +kernel
theorem dX3_requireUndoableDone_22 : decode cX3_requireUndoableDone 22 = .ok (.aload_n 0, 1) := by decide +kernel
theorem dX3_requireUndoableDone_23 : decode cX3_requireUndoableDone 23 = .ok (.getfield 81, 3) := by decide +kernel
theorem dX3_requireUndoableDone_26 : decode cX3_requireUndoableDone 26 = .ok (.invokevirtual 291, 3) := by decide +kernel
theorem dX3_requireUndoableDone_29 : decode cX3_requireUndoableDone 29 = .ok (.ifCond .eq 14, 3) := by decide +kernel
theorem dX3_requireUndoableDone_32 : decode cX3_requireUndoableDone 32 = .ok (.new 46, 3) := by decide +kernel
theorem dX3_requireUndoableDone_35 : decode cX3_requireUndoableDone 35 = .ok (.dup, 1) := by decide +kernel
theorem dX3_requireUndoableDone_36 : decode cX3_requireUndoableDone 36 = .ok (.ldc_w 294, 3) := by decide +kernel
theorem dX3_requireUndoableDone_39 : decode cX3_requireUndoableDone 39 = .ok (.invokespecial 50, 3) := by decide +kernel
theorem dX3_requireUndoableDone_42 : decode cX3_requireUndoableDone 42 = .ok (.athrow, 1) := by decide +kernel
theorem dX3_requireUndoableDone_43 : decode cX3_requireUndoableDone 43 = .ok (.return_, 1) := by decide +kernel
theorem dX4_init_0 : decode cX4_init 0 = .ok (.aload_n 0, 1) := by decide +kernel
theorem dX4_init_1 : decode cX4_init 1 = .ok (.invokespecial 1, 3) := by decide +kernel
theorem dX4_init_4 : decode cX4_init 4 = .ok (.aload_n 0, 1) := by decide +kernel
theorem dX4_init_5 : decode cX4_init 5 = .ok (.bipush 13, 2) := by decide +kernel
theorem dX4_init_7 : decode cX4_init 7 = .ok (.newarray .int, 2) := by decide +kernel
theorem dX4_init_9 : decode cX4_init 9 = .ok (.putfield 7, 3) := by decide +kernel
theorem dX4_init_12 : decode cX4_init 12 = .ok (.aload_n 0, 1) := by decide +kernel
theorem dX4_init_13 : decode cX4_init 13 = .ok (.bipush 13, 2) := by decide +kernel
theorem dX4_init_15 : decode cX4_init 15 = .ok (.newarray .int, 2) := by decide +kernel
theorem dX4_init_17 : decode cX4_init 17 = .ok (.putfield 13, 3) := by decide +kernel
theorem dX4_init_20 : decode cX4_init 20 = .ok (.aload_n 0, 1) := by decide +kernel
theorem dX4_init_21 : decode cX4_init 21 = .ok (.bipush 13, 2) := by decide +kernel
theorem dX4_init_23 : decode cX4_init 23 = .ok (.newarray .int, 2) := by decide +kernel
theorem dX4_init_25 : decode cX4_init 25 = .ok (.putfield 16, 3) := by decide +kernel
theorem dX4_init_28 : decode cX4_init 28 = .ok (.aload_n 0, 1) := by decide +kernel
theorem dX4_init_29 : decode cX4_init 29 = .ok (.bipush 13, 2) := by decide +kernel
theorem dX4_init_31 : decode cX4_init 31 = .ok (.newarray .int, 2) := by decide +kernel
theorem dX4_init_33 : decode cX4_init 33 = .ok (.putfield 19, 3) := by decide +kernel
theorem dX4_init_36 : decode cX4_init 36 = .ok (.aload_n 0, 1) := by decide +kernel
theorem dX4_init_37 : decode cX4_init 37 = .ok (.bipush 40, 2) := by decide +kernel
theorem dX4_init_39 : decode cX4_init 39 = .ok (.newarray .int, 2) := by decide +kernel
theorem dX4_init_41 : decode cX4_init 41 = .ok (.putfield 22, 3) := by decide +kernel
theorem dX4_init_44 : decode cX4_init 44 = .ok (.aload_n 0, 1) := by decide +kernel
theorem dX4_init_45 : decode cX4_init 45 = .ok (.bipush 120, 2) := by decide +kernel
theorem dX4_init_47 : decode cX4_init 47 = .ok (.newarray .int, 2) := by decide +kernel
theorem dX4_init_49 : decode cX4_init 49 = .ok (.putfield 25, 3) := by decide +kernel
theorem dX4_init_52 : decode cX4_init 52 = .ok (.aload_n 0, 1) := by decide +kernel
theorem dX4_init_53 : decode cX4_init 53 = .ok (.iconst 3, 1) := by decide +kernel
theorem dX4_init_54 : decode cX4_init 54 = .ok (.newarray .long, 2) := by decide +kernel
theorem dX4_init_56 : decode cX4_init 56 = .ok (.putfield 28, 3) := by decide +kernel
theorem dX4_init_59 : decode cX4_init 59 = .ok (.aload_n 0, 1) := by decide +kernel
theorem dX4_init_60 : decode cX4_init 60 = .ok (.iconst (-1), 1) := by decide +kernel
theorem dX4_init_61 : decode cX4_init 61 = .ok (.putfield 32, 3) := by decide +kernel
theorem dX4_init_64 : decode cX4_init 64 = .ok (.aload_n 0, 1) := by decide +kernel
theorem dX4_init_65 : decode cX4_init 65 = .ok (.iconst 4, 1) := by decide +kernel
theorem dX4_init_66 : decode cX4_init 66 = .ok (.newarray .boolean, 2) := by decide +kernel
theorem dX4_init_68 : decode cX4_init 68 = .ok (.putfield 36, 3) := by decide +kernel
theorem dX4_init_71 : decode cX4_init 71 = .ok (.iconst 0, 1) := by decide +kernel
theorem dX4_init_72 : decode cX4_init 72 = .ok (.istore_n 1, 1) := by decide +kernel
theorem dX4_init_73 : decode cX4_init 73 = .ok (.iload_n 1, 1) := by decide +kernel
theorem dX4_init_74 : decode cX4_init 74 = .ok (.bipush 40, 2) := by decide +kernel
theorem dX4_init_76 : decode cX4_init 76 = .ok (.if_icmp .ge 16, 3) := by decide +kernel
theorem dX4_init_79 : decode cX4_init 79 = .ok (.aload_n 0, 1) := by decide +kernel
theorem dX4_init_80 : decode cX4_init 80 = .ok (.getfield 22, 3) := by decide +kernel
theorem dX4_init_83 : decode cX4_init 83 = .ok (.iload_n 1, 1) := by decide +kernel
theorem dX4_init_84 : decode cX4_init 84 = .ok (.iconst (-1), 1) := by decide +kernel
theorem dX4_init_85 : decode cX4_init 85 = .ok (.iastore, 1) := by decide +kernel
theorem dX4_init_86 : decode cX4_init 86 = .ok (.iinc 1 1, 3) := by decide +kernel
theorem dX4_init_89 : decode cX4_init 89 = .ok (.goto (-16), 3) := by decide +kernel
theorem dX4_init_92 : decode cX4_init 92 = .ok (.return_, 1) := by decide +kernel
theorem dX4_thrown_0 : decode cX4_thrown 0 = .ok (.aload_n 0, 1) := by decide +kernel
theorem dX4_thrown_1 : decode cX4_thrown 1 = .ok (.getfield 40, 3) := by decide +kernel
theorem dX4_thrown_4 : decode cX4_thrown 4 = .ok (.ireturn, 1) := by decide +kernel
theorem dX4_refused_0 : decode cX4_refused 0 = .ok (.aload_n 0, 1) := by decide +kernel
theorem dX4_refused_1 : decode cX4_refused 1 = .ok (.iload_n 1, 1) := by decide +kernel
theorem dX4_refused_2 : decode cX4_refused 2 = .ok (.putfield 40, 3) := by decide +kernel
theorem dX4_refused_5 : decode cX4_refused 5 = .ok (.iload_n 1, 1) := by decide +kernel
theorem dX4_refused_6 : decode cX4_refused 6 = .ok (.ifCond .eq 7, 3) := by decide +kernel
theorem dX4_refused_9 : decode cX4_refused 9 = .ok (.iconst 1, 1) := by decide +kernel
theorem dX4_refused_10 : decode cX4_refused 10 = .ok (.goto 4, 3) := by decide +kernel
theorem dX4_refused_13 : decode cX4_refused 13 = .ok (.iconst 0, 1) := by decide +kernel
theorem dX4_refused_14 : decode cX4_refused 14 = .ok (.ireturn, 1) := by decide +kernel
theorem dX4_fine_0 : decode cX4_fine 0 = .ok (.aload_n 0, 1) := by decide +kernel
theorem dX4_fine_1 : decode cX4_fine 1 = .ok (.iconst 0, 1) := by decide +kernel
theorem dX4_fine_2 : decode cX4_fine 2 = .ok (.putfield 40, 3) := by decide +kernel
theorem dX4_fine_5 : decode cX4_fine 5 = .ok (.iload_n 1, 1) := by decide +kernel
theorem dX4_fine_6 : decode cX4_fine 6 = .ok (.ireturn, 1) := by decide +kernel
theorem dX4_in_0 : decode cX4_in 0 = .ok (.iload_n 0, 1) := by decide +kernel
theorem dX4_in_1 : decode cX4_in 1 = .ok (.iload_n 1, 1) := by decide +kernel
theorem dX4_in_2 : decode cX4_in 2 = .ok (.if_icmp .lt 12, 3) := by decide +kernel
theorem dX4_in_5 : decode cX4_in 5 = .ok (.iload_n 0, 1) := by decide +kernel
theorem dX4_in_6 : decode cX4_in 6 = .ok (.iload_n 2, 1) := by decide +kernel
theorem dX4_in_7 : decode cX4_in 7 = .ok (.if_icmp .gt 7, 3) := by decide +kernel
theorem dX4_in_10 : decode cX4_in 10 = .ok (.iconst 1, 1) := by decide +kernel
theorem dX4_in_11 : decode cX4_in 11 = .ok (.goto 4, 3) := by decide +kernel
theorem dX4_in_14 : decode cX4_in 14 = .ok (.iconst 0, 1) := by decide +kernel
theorem dX4_in_15 : decode cX4_in 15 = .ok (.ireturn, 1) := by decide +kernel
theorem dX4_isValue_0 : decode cX4_isValue 0 = .ok (.lload_n 0, 1) := by decide +kernel
theorem dX4_isValue_1 : decode cX4_isValue 1 = .ok (.ldc2_w 43, 3) := by decide +kernel
theorem dX4_isValue_4 : decode cX4_isValue 4 = .ok (.lcmp, 1) := by decide +kernel
theorem dX4_isValue_5 : decode cX4_isValue 5 = .ok (.ifCond .lt 15, 3) := by decide +kernel
theorem dX4_isValue_8 : decode cX4_isValue 8 = .ok (.lload_n 0, 1) := by decide +kernel
theorem dX4_isValue_9 : decode cX4_isValue 9 = .ok (.ldc2_w 45, 3) := by decide +kernel
theorem dX4_isValue_12 : decode cX4_isValue 12 = .ok (.lcmp, 1) := by decide +kernel
theorem dX4_isValue_13 : decode cX4_isValue 13 = .ok (.ifCond .gt 7, 3) := by decide +kernel
theorem dX4_isValue_16 : decode cX4_isValue 16 = .ok (.iconst 1, 1) := by decide +kernel
theorem dX4_isValue_17 : decode cX4_isValue 17 = .ok (.goto 4, 3) := by decide +kernel
theorem dX4_isValue_20 : decode cX4_isValue 20 = .ok (.iconst 0, 1) := by decide +kernel
theorem dX4_isValue_21 : decode cX4_isValue 21 = .ok (.ireturn, 1) := by decide +kernel
set_option maxRecDepth 20000 in
theorem ggX4_isChange_X4_in : GoodIn wsX4_isChange wsX4_in := goodIn_r _ [4] (by decide +kernel) (by decide +kernel)
set_option maxRecDepth 20000 in
theorem gX4_isChange_X4_in : GoodIn wsX4_isChange (va_wsS RX4 47 yX4_in wsX4_in) := goodIn_app (goodIn_of _ (by decide +kernel)) ggX4_isChange_X4_in
theorem dX4_isChange_0 : decode cX4_isChange 0 = .ok (.iload_n 0, 1) := by decide +kernel
theorem dX4_isChange_1 : decode cX4_isChange 1 = .ok (.iconst 0, 1) := by decide +kernel
theorem dX4_isChange_2 : decode cX4_isChange 2 = .ok (.iconst 2, 1) := by decide +kernel
theorem dX4_isChange_3 : decode cX4_isChange 3 = .ok (.invokestatic 47, 3) := by decide +kernel
theorem dX4_isChange_6 : decode cX4_isChange 6 = .ok (.ifCond .eq 16, 3) := by decide +kernel
theorem dX4_isChange_9 : decode cX4_isChange 9 = .ok (.iload_n 1, 1) := by decide +kernel
theorem dX4_isChange_10 : decode cX4_isChange 10 = .ok (.iconst 0, 1) := by decide +kernel
theorem dX4_isChange_11 : decode cX4_isChange 11 = .ok (.iconst 2, 1) := by decide +kernel
theorem dX4_isChange_12 : decode cX4_isChange 12 = .ok (.invokestatic 47, 3) := by decide +kernel
theorem dX4_isChange_15 : decode cX4_isChange 15 = .ok (.ifCond .eq 7, 3) := by decide +kernel
theorem dX4_isChange_18 : decode cX4_isChange 18 = .ok (.iconst 1, 1) := by decide +kernel
theorem dX4_isChange_19 : decode cX4_isChange 19 = .ok (.goto 4, 3) := by decide +kernel
theorem dX4_isChange_22 : decode cX4_isChange 22 = .ok (.iconst 0, 1) := by decide +kernel
theorem dX4_isChange_23 : decode cX4_isChange 23 = .ok (.istore_n 3, 1) := by decide +kernel
theorem dX4_isChange_24 : decode cX4_isChange 24 = .ok (.iload_n 3, 1) := by decide +kernel
theorem dX4_isChange_25 : decode cX4_isChange 25 = .ok (.ifCond .eq 64, 3) := by decide +kernel
theorem dX4_isChange_28 : decode cX4_isChange 28 = .ok (.iload_n 0, 1) := by decide +kernel
theorem dX4_isChange_29 : decode cX4_isChange 29 = .ok (.ifCond .ne 19, 3) := by decide +kernel
theorem dX4_isChange_32 : decode cX4_isChange 32 = .ok (.iload_n 2, 1) := by decide +kernel
theorem dX4_isChange_33 : decode cX4_isChange 33 = .ok (.sipush (-1000), 3) := by decide +kernel
theorem dX4_isChange_36 : decode cX4_isChange 36 = .ok (.sipush 1000, 3) := by decide +kernel
theorem dX4_isChange_39 : decode cX4_isChange 39 = .ok (.invokestatic 47, 3) := by decide +kernel
theorem dX4_isChange_42 : decode cX4_isChange 42 = .ok (.ifCond .eq 47, 3) := by decide +kernel
theorem dX4_isChange_45 : decode cX4_isChange 45 = .ok (.goto 40, 3) := by decide +kernel
theorem dX4_isChange_48 : decode cX4_isChange 48 = .ok (.iload_n 0, 1) := by decide +kernel
theorem dX4_isChange_49 : decode cX4_isChange 49 = .ok (.iconst 1, 1) := by decide +kernel
theorem dX4_isChange_50 : decode cX4_isChange 50 = .ok (.if_icmp .ne 21, 3) := by decide +kernel
theorem dX4_isChange_53 : decode cX4_isChange 53 = .ok (.iload_n 2, 1) := by decide +kernel
theorem dX4_isChange_54 : decode cX4_isChange 54 = .ok (.bipush (-9), 2) := by decide +kernel
theorem dX4_isChange_56 : decode cX4_isChange 56 = .ok (.bipush 9, 2) := by decide +kernel
theorem dX4_isChange_58 : decode cX4_isChange 58 = .ok (.invokestatic 47, 3) := by decide +kernel
theorem dX4_isChange_61 : decode cX4_isChange 61 = .ok (.ifCond .eq 28, 3) := by decide +kernel
theorem dX4_isChange_64 : decode cX4_isChange 64 = .ok (.iload_n 2, 1) := by decide +kernel
theorem dX4_isChange_65 : decode cX4_isChange 65 = .ok (.ifCond .eq 24, 3) := by decide +kernel
theorem dX4_isChange_68 : decode cX4_isChange 68 = .ok (.goto 17, 3) := by decide +kernel
theorem dX4_isChange_71 : decode cX4_isChange 71 = .ok (.iload_n 2, 1) := by decide +kernel
theorem dX4_isChange_72 : decode cX4_isChange 72 = .ok (.iconst 0, 1) := by decide +kernel
theorem dX4_isChange_73 : decode cX4_isChange 73 = .ok (.iconst 2, 1) := by decide +kernel
theorem dX4_isChange_74 : decode cX4_isChange 74 = .ok (.invokestatic 47, 3) := by decide +kernel
theorem dX4_isChange_77 : decode cX4_isChange 77 = .ok (.ifCond .eq 12, 3) := by decide +kernel
theorem dX4_isChange_80 : decode cX4_isChange 80 = .ok (.iload_n 2, 1) := by decide +kernel
theorem dX4_isChange_81 : decode cX4_isChange 81 = .ok (.iload_n 1, 1) := by decide +kernel
theorem dX4_isChange_82 : decode cX4_isChange 82 = .ok (.if_icmp .eq 7, 3) := by decide +kernel
theorem dX4_isChange_85 : decode cX4_isChange 85 = .ok (.iconst 1, 1) := by decide +kernel
theorem dX4_isChange_86 : decode cX4_isChange 86 = .ok (.goto 4, 3) := by decide +kernel
theorem dX4_isChange_89 : decode cX4_isChange 89 = .ok (.iconst 0, 1) := by decide +kernel
theorem dX4_isChange_90 : decode cX4_isChange 90 = .ok (.ireturn, 1) := by decide +kernel
theorem dX4_sumOf_0 : decode cX4_sumOf 0 = .ok (.aload_n 0, 1) := by decide +kernel
theorem dX4_sumOf_1 : decode cX4_sumOf 1 = .ok (.getfield 7, 3) := by decide +kernel
theorem dX4_sumOf_4 : decode cX4_sumOf 4 = .ok (.iload_n 1, 1) := by decide +kernel
theorem dX4_sumOf_5 : decode cX4_sumOf 5 = .ok (.iaload, 1) := by decide +kernel
theorem dX4_sumOf_6 : decode cX4_sumOf 6 = .ok (.bipush 31, 2) := by decide +kernel
theorem dX4_sumOf_8 : decode cX4_sumOf 8 = .ok (.imul, 1) := by decide +kernel
theorem dX4_sumOf_9 : decode cX4_sumOf 9 = .ok (.aload_n 0, 1) := by decide +kernel
theorem dX4_sumOf_10 : decode cX4_sumOf 10 = .ok (.getfield 13, 3) := by decide +kernel
theorem dX4_sumOf_13 : decode cX4_sumOf 13 = .ok (.iload_n 1, 1) := by decide +kernel
theorem dX4_sumOf_14 : decode cX4_sumOf 14 = .ok (.iaload, 1) := by decide +kernel
theorem dX4_sumOf_15 : decode cX4_sumOf 15 = .ok (.iadd, 1) := by decide +kernel
theorem dX4_sumOf_16 : decode cX4_sumOf 16 = .ok (.sipush 2003, 3) := by decide +kernel
theorem dX4_sumOf_19 : decode cX4_sumOf 19 = .ok (.imul, 1) := by decide +kernel
theorem dX4_sumOf_20 : decode cX4_sumOf 20 = .ok (.aload_n 0, 1) := by decide +kernel
theorem dX4_sumOf_21 : decode cX4_sumOf 21 = .ok (.getfield 16, 3) := by decide +kernel
theorem dX4_sumOf_24 : decode cX4_sumOf 24 = .ok (.iload_n 1, 1) := by decide +kernel
theorem dX4_sumOf_25 : decode cX4_sumOf 25 = .ok (.iaload, 1) := by decide +kernel
theorem dX4_sumOf_26 : decode cX4_sumOf 26 = .ok (.iadd, 1) := by decide +kernel
theorem dX4_sumOf_27 : decode cX4_sumOf 27 = .ok (.sipush 1001, 3) := by decide +kernel
theorem dX4_sumOf_30 : decode cX4_sumOf 30 = .ok (.iadd, 1) := by decide +kernel
theorem dX4_sumOf_31 : decode cX4_sumOf 31 = .ok (.bipush 7, 2) := by decide +kernel
theorem dX4_sumOf_33 : decode cX4_sumOf 33 = .ok (.imul, 1) := by decide +kernel
theorem dX4_sumOf_34 : decode cX4_sumOf 34 = .ok (.iload_n 1, 1) := by decide +kernel
theorem dX4_sumOf_35 : decode cX4_sumOf 35 = .ok (.iadd, 1) := by decide +kernel
theorem dX4_sumOf_36 : decode cX4_sumOf 36 = .ok (.ldc 51, 2) := by decide +kernel
theorem dX4_sumOf_38 : decode cX4_sumOf 38 = .ok (.irem, 1) := by decide +kernel
theorem dX4_sumOf_39 : decode cX4_sumOf 39 = .ok (.ireturn, 1) := by decide +kernel
theorem dX4_put_0 : decode cX4_put 0 = .ok (.aload_n 0, 1) := by decide +kernel
theorem dX4_put_1 : decode cX4_put 1 = .ok (.getfield 7, 3) := by decide +kernel
theorem dX4_put_4 : decode cX4_put 4 = .ok (.iload_n 1, 1) := by decide +kernel
theorem dX4_put_5 : decode cX4_put 5 = .ok (.iload_n 2, 1) := by decide +kernel
theorem dX4_put_6 : decode cX4_put 6 = .ok (.iastore, 1) := by decide +kernel
theorem dX4_put_7 : decode cX4_put 7 = .ok (.aload_n 0, 1) := by decide +kernel
theorem dX4_put_8 : decode cX4_put 8 = .ok (.getfield 13, 3) := by decide +kernel
theorem dX4_put_11 : decode cX4_put 11 = .ok (.iload_n 1, 1) := by decide +kernel
theorem dX4_put_12 : decode cX4_put 12 = .ok (.iload_n 3, 1) := by decide +kernel
theorem dX4_put_13 : decode cX4_put 13 = .ok (.iastore, 1) := by decide +kernel
theorem dX4_put_14 : decode cX4_put 14 = .ok (.aload_n 0, 1) := by decide +kernel
theorem dX4_put_15 : decode cX4_put 15 = .ok (.getfield 16, 3) := by decide +kernel
theorem dX4_put_18 : decode cX4_put 18 = .ok (.iload_n 1, 1) := by decide +kernel
theorem dX4_put_19 : decode cX4_put 19 = .ok (.iload 4, 2) := by decide +kernel
theorem dX4_put_21 : decode cX4_put 21 = .ok (.iastore, 1) := by decide +kernel
theorem dX4_put_22 : decode cX4_put 22 = .ok (.return_, 1) := by decide +kernel
set_option maxRecDepth 20000 in
theorem ggX4_addChange_X4_isChange : GoodIn wsX4_addChange wsX4_isChange := goodIn_r _ [5, 6, 7, 4, 8] (by decide +kernel) (by decide +kernel)
set_option maxRecDepth 20000 in
theorem gX4_addChange_X4_isChange : GoodIn wsX4_addChange (va_wsS RX4 52 yX4_isChange wsX4_isChange) := goodIn_app (goodIn_of _ (by decide +kernel)) ggX4_addChange_X4_isChange
set_option maxRecDepth 20000 in
theorem ggX4_addChange_X4_refused : GoodIn wsX4_addChange wsX4_refused := goodIn_r _ [12, 13, 21, 22, 23, 24, 25, 26, 27, 28, 29, 30, 31, 32, 33, 34, 35, 36] (by decide +kernel) (by decide +kernel)
set_option maxRecDepth 20000 in
theorem gX4_addChange_X4_refused : GoodIn wsX4_addChange (wsV RX4 58 RX4 yX4_refused wsX4_refused) := goodIn_app (goodIn_of _ (by decide +kernel)) ggX4_addChange_X4_refused
set_option maxRecDepth 20000 in
theorem ggX4_addChange_X4_put : GoodIn wsX4_addChange wsX4_put := goodIn_r _ [17, 18, 19, 20, 21, 22, 23, 24, 25, 26, 27, 28, 29, 30, 31, 32, 33, 34, 35, 36] (by decide +kernel) (by decide +kernel)
set_option maxRecDepth 20000 in
theorem gX4_addChange_X4_put : GoodIn wsX4_addChange (wsV RX4 62 RX4 yX4_put wsX4_put) := goodIn_app (goodIn_of _ (by decide +kernel)) ggX4_addChange_X4_put
theorem dX4_addChange_0 : decode cX4_addChange 0 = .ok (.aload_n 0, 1) := by decide +kernel
theorem dX4_addChange_1 : decode cX4_addChange 1 = .ok (.iload_n 1, 1) := by decide +kernel
theorem dX4_addChange_2 : decode cX4_addChange 2 = .ok (.iload_n 2, 1) := by decide +kernel
theorem dX4_addChange_3 : decode cX4_addChange 3 = .ok (.iload_n 3, 1) := by decide +kernel
theorem dX4_addChange_4 : decode cX4_addChange 4 = .ok (.invokestatic 52, 3) := by decide +kernel
theorem dX4_addChange_7 : decode cX4_addChange 7 = .ok (.ifCond .ne 7, 3) := by decide +kernel
theorem dX4_addChange_10 : decode cX4_addChange 10 = .ok (.iconst 1, 1) := by decide +kernel
theorem dX4_addChange_11 : decode cX4_addChange 11 = .ok (.goto 17, 3) := by decide +kernel
theorem dX4_addChange_14 : decode cX4_addChange 14 = .ok (.aload_n 0, 1) := by decide +kernel
theorem dX4_addChange_15 : decode cX4_addChange 15 = .ok (.getfield 55, 3) := by decide +kernel
theorem dX4_addChange_18 : decode cX4_addChange 18 = .ok (.bipush 12, 2) := by decide +kernel
theorem dX4_addChange_20 : decode cX4_addChange 20 = .ok (.if_icmp .ne 7, 3) := by decide +kernel
theorem dX4_addChange_23 : decode cX4_addChange 23 = .ok (.iconst 2, 1) := by decide +kernel
theorem dX4_addChange_24 : decode cX4_addChange 24 = .ok (.goto 4, 3) := by decide +kernel
theorem dX4_addChange_27 : decode cX4_addChange 27 = .ok (.iconst 0, 1) := by decide +kernel
theorem dX4_addChange_28 : decode cX4_addChange 28 = .ok (.invokevirtual 58, 3) := by decide +kernel
theorem dX4_addChange_31 : decode cX4_addChange 31 = .ok (.ifCond .eq 5, 3) := by decide +kernel
theorem dX4_addChange_34 : decode cX4_addChange 34 = .ok (.iconst 0, 1) := by decide +kernel
theorem dX4_addChange_35 : decode cX4_addChange 35 = .ok (.ireturn, 1) := by decide +kernel
theorem dX4_addChange_36 : decode cX4_addChange 36 = .ok (.aload_n 0, 1) := by decide +kernel
theorem dX4_addChange_37 : decode cX4_addChange 37 = .ok (.dup, 1) := by decide +kernel
theorem dX4_addChange_38 : decode cX4_addChange 38 = .ok (.getfield 55, 3) := by decide +kernel
theorem dX4_addChange_41 : decode cX4_addChange 41 = .ok (.iconst 1, 1) := by decide +kernel
theorem dX4_addChange_42 : decode cX4_addChange 42 = .ok (.iadd, 1) := by decide +kernel
theorem dX4_addChange_43 : decode cX4_addChange 43 = .ok (.putfield 55, 3) := by decide +kernel
theorem dX4_addChange_46 : decode cX4_addChange 46 = .ok (.aload_n 0, 1) := by decide +kernel
theorem dX4_addChange_47 : decode cX4_addChange 47 = .ok (.aload_n 0, 1) := by decide +kernel
theorem dX4_addChange_48 : decode cX4_addChange 48 = .ok (.getfield 55, 3) := by decide +kernel
theorem dX4_addChange_51 : decode cX4_addChange 51 = .ok (.iload_n 1, 1) := by decide +kernel
theorem dX4_addChange_52 : decode cX4_addChange 52 = .ok (.iload_n 2, 1) := by decide +kernel
theorem dX4_addChange_53 : decode cX4_addChange 53 = .ok (.iload_n 3, 1) := by decide +kernel
theorem dX4_addChange_54 : decode cX4_addChange 54 = .ok (.invokevirtual 62, 3) := by decide +kernel
theorem dX4_addChange_57 : decode cX4_addChange 57 = .ok (.aload_n 0, 1) := by decide +kernel
theorem dX4_addChange_58 : decode cX4_addChange 58 = .ok (.getfield 55, 3) := by decide +kernel
theorem dX4_addChange_61 : decode cX4_addChange 61 = .ok (.ireturn, 1) := by decide +kernel
theorem dX4_stateOf_0 : decode cX4_stateOf 0 = .ok (.iload_n 1, 1) := by decide +kernel
theorem dX4_stateOf_1 : decode cX4_stateOf 1 = .ok (.aload_n 0, 1) := by decide +kernel
theorem dX4_stateOf_2 : decode cX4_stateOf 2 = .ok (.getfield 66, 3) := by decide +kernel
theorem dX4_stateOf_5 : decode cX4_stateOf 5 = .ok (.if_icmp .gt 7, 3) := by decide +kernel
theorem dX4_stateOf_8 : decode cX4_stateOf 8 = .ok (.iconst 2, 1) := by decide +kernel
theorem dX4_stateOf_9 : decode cX4_stateOf 9 = .ok (.goto 21, 3) := by decide +kernel
theorem dX4_stateOf_12 : decode cX4_stateOf 12 = .ok (.iload_n 1, 1) := by decide +kernel
theorem dX4_stateOf_13 : decode cX4_stateOf 13 = .ok (.aload_n 0, 1) := by decide +kernel
theorem dX4_stateOf_14 : decode cX4_stateOf 14 = .ok (.getfield 66, 3) := by decide +kernel
theorem dX4_stateOf_17 : decode cX4_stateOf 17 = .ok (.iconst 1, 1) := by decide +kernel
theorem dX4_stateOf_18 : decode cX4_stateOf 18 = .ok (.iadd, 1) := by decide +kernel
theorem dX4_stateOf_19 : decode cX4_stateOf 19 = .ok (.if_icmp .ne 10, 3) := by decide +kernel
theorem dX4_stateOf_22 : decode cX4_stateOf 22 = .ok (.aload_n 0, 1) := by decide +kernel
theorem dX4_stateOf_23 : decode cX4_stateOf 23 = .ok (.getfield 69, 3) := by decide +kernel
theorem dX4_stateOf_26 : decode cX4_stateOf 26 = .ok (.goto 4, 3) := by decide +kernel
theorem dX4_stateOf_29 : decode cX4_stateOf 29 = .ok (.iconst 0, 1) := by decide +kernel
theorem dX4_stateOf_30 : decode cX4_stateOf 30 = .ok (.ireturn, 1) := by decide +kernel
set_option maxRecDepth 20000 in
theorem ggX4_edit_X4_isChange : GoodIn wsX4_edit wsX4_isChange := goodIn_r _ [5, 6, 7, 4, 8] (by decide +kernel) (by decide +kernel)
set_option maxRecDepth 20000 in
theorem gX4_edit_X4_isChange : GoodIn wsX4_edit (va_wsS RX4 52 yX4_isChange wsX4_isChange) := goodIn_app (goodIn_of _ (by decide +kernel)) ggX4_edit_X4_isChange
set_option maxRecDepth 20000 in
theorem ggX4_edit_X4_in : GoodIn wsX4_edit wsX4_in := goodIn_r _ [8] (by decide +kernel) (by decide +kernel)
set_option maxRecDepth 20000 in
theorem gX4_edit_X4_in : GoodIn wsX4_edit (va_wsS RX4 47 yX4_in wsX4_in) := goodIn_app (goodIn_of _ (by decide +kernel)) ggX4_edit_X4_in
set_option maxRecDepth 20000 in
theorem ggX4_edit_X4_stateOf : GoodIn wsX4_edit wsX4_stateOf := goodIn_r _ [12, 13, 14, 32, 33, 34, 35, 36, 37, 38, 39, 40, 41, 42, 43, 44, 45, 46, 47] (by decide +kernel) (by decide +kernel)
set_option maxRecDepth 20000 in
theorem gX4_edit_X4_stateOf : GoodIn wsX4_edit (wsV RX4 72 RX4 yX4_stateOf wsX4_stateOf) := goodIn_app (goodIn_of _ (by decide +kernel)) ggX4_edit_X4_stateOf
set_option maxRecDepth 20000 in
theorem ggX4_edit_X4_refused : GoodIn wsX4_edit wsX4_refused := goodIn_r _ [18, 19, 32, 33, 34, 35, 36, 37, 38, 39, 40, 41, 42, 43, 44, 45, 46, 47] (by decide +kernel) (by decide +kernel)
set_option maxRecDepth 20000 in
theorem gX4_edit_X4_refused : GoodIn wsX4_edit (wsV RX4 58 RX4 yX4_refused wsX4_refused) := goodIn_app (goodIn_of _ (by decide +kernel)) ggX4_edit_X4_refused
set_option maxRecDepth 20000 in
theorem ggX4_edit_X4_put : GoodIn wsX4_edit wsX4_put := goodIn_r _ [23, 24, 25, 26, 32, 33, 34, 35, 36, 37, 38, 39, 40, 41, 42, 43, 44, 45, 46, 47] (by decide +kernel) (by decide +kernel)
set_option maxRecDepth 20000 in
theorem gX4_edit_X4_put : GoodIn wsX4_edit (wsV RX4 62 RX4 yX4_put wsX4_put) := goodIn_app (goodIn_of _ (by decide +kernel)) ggX4_edit_X4_put
set_option maxRecDepth 20000 in
theorem ggX4_edit_X4_sumOf : GoodIn wsX4_edit wsX4_sumOf := goodIn_r _ [30, 24, 25, 26, 31, 32, 33, 34, 35, 36, 37, 38, 39, 40, 41, 42, 43, 44, 45, 46, 47] (by decide +kernel) (by decide +kernel)
set_option maxRecDepth 20000 in
theorem gX4_edit_X4_sumOf : GoodIn wsX4_edit (wsV RX4 76 RX4 yX4_sumOf wsX4_sumOf) := goodIn_app (goodIn_of _ (by decide +kernel)) ggX4_edit_X4_sumOf
theorem dX4_edit_0 : decode cX4_edit 0 = .ok (.iload_n 2, 1) := by decide +kernel
theorem dX4_edit_1 : decode cX4_edit 1 = .ok (.iload_n 3, 1) := by decide +kernel
theorem dX4_edit_2 : decode cX4_edit 2 = .ok (.iload 4, 2) := by decide +kernel
theorem dX4_edit_4 : decode cX4_edit 4 = .ok (.invokestatic 52, 3) := by decide +kernel
theorem dX4_edit_7 : decode cX4_edit 7 = .ok (.istore 5, 2) := by decide +kernel
theorem dX4_edit_9 : decode cX4_edit 9 = .ok (.aload_n 0, 1) := by decide +kernel
theorem dX4_edit_10 : decode cX4_edit 10 = .ok (.iload 5, 2) := by decide +kernel
theorem dX4_edit_12 : decode cX4_edit 12 = .ok (.ifCond .ne 7, 3) := by decide +kernel
theorem dX4_edit_15 : decode cX4_edit 15 = .ok (.iconst 1, 1) := by decide +kernel
theorem dX4_edit_16 : decode cX4_edit 16 = .ok (.goto 35, 3) := by decide +kernel
theorem dX4_edit_19 : decode cX4_edit 19 = .ok (.iload_n 1, 1) := by decide +kernel
theorem dX4_edit_20 : decode cX4_edit 20 = .ok (.iconst 1, 1) := by decide +kernel
theorem dX4_edit_21 : decode cX4_edit 21 = .ok (.aload_n 0, 1) := by decide +kernel
theorem dX4_edit_22 : decode cX4_edit 22 = .ok (.getfield 55, 3) := by decide +kernel
theorem dX4_edit_25 : decode cX4_edit 25 = .ok (.invokestatic 47, 3) := by decide +kernel
theorem dX4_edit_28 : decode cX4_edit 28 = .ok (.ifCond .ne 7, 3) := by decide +kernel
theorem dX4_edit_31 : decode cX4_edit 31 = .ok (.iconst 2, 1) := by decide +kernel
theorem dX4_edit_32 : decode cX4_edit 32 = .ok (.goto 19, 3) := by decide +kernel
theorem dX4_edit_35 : decode cX4_edit 35 = .ok (.aload_n 0, 1) := by decide +kernel
theorem dX4_edit_36 : decode cX4_edit 36 = .ok (.iload_n 1, 1) := by decide +kernel
theorem dX4_edit_37 : decode cX4_edit 37 = .ok (.invokevirtual 72, 3) := by decide +kernel
theorem dX4_edit_40 : decode cX4_edit 40 = .ok (.iconst 2, 1) := by decide +kernel
theorem dX4_edit_41 : decode cX4_edit 41 = .ok (.irem, 1) := by decide +kernel
theorem dX4_edit_42 : decode cX4_edit 42 = .ok (.iconst 1, 1) := by decide +kernel
theorem dX4_edit_43 : decode cX4_edit 43 = .ok (.if_icmp .ne 7, 3) := by decide +kernel
theorem dX4_edit_46 : decode cX4_edit 46 = .ok (.iconst 3, 1) := by decide +kernel
theorem dX4_edit_47 : decode cX4_edit 47 = .ok (.goto 4, 3) := by decide +kernel
theorem dX4_edit_50 : decode cX4_edit 50 = .ok (.iconst 0, 1) := by decide +kernel
theorem dX4_edit_51 : decode cX4_edit 51 = .ok (.invokevirtual 58, 3) := by decide +kernel
theorem dX4_edit_54 : decode cX4_edit 54 = .ok (.ifCond .eq 5, 3) := by decide +kernel
theorem dX4_edit_57 : decode cX4_edit 57 = .ok (.iconst 0, 1) := by decide +kernel
theorem dX4_edit_58 : decode cX4_edit 58 = .ok (.ireturn, 1) := by decide +kernel
theorem dX4_edit_59 : decode cX4_edit 59 = .ok (.aload_n 0, 1) := by decide +kernel
theorem dX4_edit_60 : decode cX4_edit 60 = .ok (.iload_n 1, 1) := by decide +kernel
theorem dX4_edit_61 : decode cX4_edit 61 = .ok (.iload_n 2, 1) := by decide +kernel
theorem dX4_edit_62 : decode cX4_edit 62 = .ok (.iload_n 3, 1) := by decide +kernel
theorem dX4_edit_63 : decode cX4_edit 63 = .ok (.iload 4, 2) := by decide +kernel
theorem dX4_edit_65 : decode cX4_edit 65 = .ok (.invokevirtual 62, 3) := by decide +kernel
theorem dX4_edit_68 : decode cX4_edit 68 = .ok (.aload_n 0, 1) := by decide +kernel
theorem dX4_edit_69 : decode cX4_edit 69 = .ok (.iload_n 1, 1) := by decide +kernel
theorem dX4_edit_70 : decode cX4_edit 70 = .ok (.invokevirtual 76, 3) := by decide +kernel
theorem dX4_edit_73 : decode cX4_edit 73 = .ok (.ireturn, 1) := by decide +kernel
set_option maxRecDepth 20000 in
theorem ggX4_changes_X4_fine : GoodIn wsX4_changes wsX4_fine := goodIn_r _ [6, 7, 8, 9, 10, 11, 12, 13, 14, 15, 16, 17, 18, 19, 20, 21, 22, 23] (by decide +kernel) (by decide +kernel)
set_option maxRecDepth 20000 in
theorem gX4_changes_X4_fine : GoodIn wsX4_changes (wsV RX4 79 RX4 yX4_fine wsX4_fine) := goodIn_app (goodIn_of _ (by decide +kernel)) ggX4_changes_X4_fine
theorem dX4_changes_0 : decode cX4_changes 0 = .ok (.aload_n 0, 1) := by decide +kernel
theorem dX4_changes_1 : decode cX4_changes 1 = .ok (.aload_n 0, 1) := by decide +kernel
theorem dX4_changes_2 : decode cX4_changes 2 = .ok (.getfield 55, 3) := by decide +kernel
theorem dX4_changes_5 : decode cX4_changes 5 = .ok (.invokevirtual 79, 3) := by decide +kernel
theorem dX4_changes_8 : decode cX4_changes 8 = .ok (.ireturn, 1) := by decide +kernel
set_option maxRecDepth 20000 in
theorem ggX4_checksum_X4_in : GoodIn wsX4_checksum wsX4_in := goodIn_r _ [5] (by decide +kernel) (by decide +kernel)
set_option maxRecDepth 20000 in
theorem gX4_checksum_X4_in : GoodIn wsX4_checksum (va_wsS RX4 47 yX4_in wsX4_in) := goodIn_app (goodIn_of _ (by decide +kernel)) ggX4_checksum_X4_in
set_option maxRecDepth 20000 in
theorem ggX4_checksum_X4_refused : GoodIn wsX4_checksum wsX4_refused := goodIn_r _ [9, 10, 19, 20, 21, 22, 23, 24, 25, 26, 27, 28, 29, 30, 31, 32, 33, 34] (by decide +kernel) (by decide +kernel)
set_option maxRecDepth 20000 in
theorem gX4_checksum_X4_refused : GoodIn wsX4_checksum (wsV RX4 58 RX4 yX4_refused wsX4_refused) := goodIn_app (goodIn_of _ (by decide +kernel)) ggX4_checksum_X4_refused
set_option maxRecDepth 20000 in
theorem ggX4_checksum_X4_sumOf : GoodIn wsX4_checksum wsX4_sumOf := goodIn_r _ [14, 15, 16, 17, 18, 19, 20, 21, 22, 23, 24, 25, 26, 27, 28, 29, 30, 31, 32, 33, 34] (by decide +kernel) (by decide +kernel)
set_option maxRecDepth 20000 in
theorem gX4_checksum_X4_sumOf : GoodIn wsX4_checksum (wsV RX4 76 RX4 yX4_sumOf wsX4_sumOf) := goodIn_app (goodIn_of _ (by decide +kernel)) ggX4_checksum_X4_sumOf
theorem dX4_checksum_0 : decode cX4_checksum 0 = .ok (.aload_n 0, 1) := by decide +kernel
theorem dX4_checksum_1 : decode cX4_checksum 1 = .ok (.iload_n 1, 1) := by decide +kernel
theorem dX4_checksum_2 : decode cX4_checksum 2 = .ok (.iconst 1, 1) := by decide +kernel
theorem dX4_checksum_3 : decode cX4_checksum 3 = .ok (.aload_n 0, 1) := by decide +kernel
theorem dX4_checksum_4 : decode cX4_checksum 4 = .ok (.getfield 55, 3) := by decide +kernel
theorem dX4_checksum_7 : decode cX4_checksum 7 = .ok (.invokestatic 47, 3) := by decide +kernel
theorem dX4_checksum_10 : decode cX4_checksum 10 = .ok (.ifCond .eq 7, 3) := by decide +kernel
theorem dX4_checksum_13 : decode cX4_checksum 13 = .ok (.iconst 0, 1) := by decide +kernel
theorem dX4_checksum_14 : decode cX4_checksum 14 = .ok (.goto 4, 3) := by decide +kernel
theorem dX4_checksum_17 : decode cX4_checksum 17 = .ok (.iconst 1, 1) := by decide +kernel
theorem dX4_checksum_18 : decode cX4_checksum 18 = .ok (.invokevirtual 58, 3) := by decide +kernel
theorem dX4_checksum_21 : decode cX4_checksum 21 = .ok (.ifCond .eq 7, 3) := by decide +kernel
theorem dX4_checksum_24 : decode cX4_checksum 24 = .ok (.iconst 0, 1) := by decide +kernel
theorem dX4_checksum_25 : decode cX4_checksum 25 = .ok (.goto 8, 3) := by decide +kernel
theorem dX4_checksum_28 : decode cX4_checksum 28 = .ok (.aload_n 0, 1) := by decide +kernel
theorem dX4_checksum_29 : decode cX4_checksum 29 = .ok (.iload_n 1, 1) := by decide +kernel
theorem dX4_checksum_30 : decode cX4_checksum 30 = .ok (.invokevirtual 76, 3) := by decide +kernel
theorem dX4_checksum_33 : decode cX4_checksum 33 = .ok (.ireturn, 1) := by decide +kernel
set_option maxRecDepth 20000 in
theorem ggX4_state_X4_in : GoodIn wsX4_state wsX4_in := goodIn_r _ [5] (by decide +kernel) (by decide +kernel)
set_option maxRecDepth 20000 in
theorem gX4_state_X4_in : GoodIn wsX4_state (va_wsS RX4 47 yX4_in wsX4_in) := goodIn_app (goodIn_of _ (by decide +kernel)) ggX4_state_X4_in
set_option maxRecDepth 20000 in
theorem ggX4_state_X4_refused : GoodIn wsX4_state wsX4_refused := goodIn_r _ [9, 10, 17, 18, 19, 20, 21, 22, 23, 24, 25, 26, 27, 28, 29, 30, 31, 32] (by decide +kernel) (by decide +kernel)
set_option maxRecDepth 20000 in
theorem gX4_state_X4_refused : GoodIn wsX4_state (wsV RX4 58 RX4 yX4_refused wsX4_refused) := goodIn_app (goodIn_of _ (by decide +kernel)) ggX4_state_X4_refused
set_option maxRecDepth 20000 in
theorem ggX4_state_X4_stateOf : GoodIn wsX4_state wsX4_stateOf := goodIn_r _ [14, 15, 16, 17, 18, 19, 20, 21, 22, 23, 24, 25, 26, 27, 28, 29, 30, 31, 32] (by decide +kernel) (by decide +kernel)
set_option maxRecDepth 20000 in
theorem gX4_state_X4_stateOf : GoodIn wsX4_state (wsV RX4 72 RX4 yX4_stateOf wsX4_stateOf) := goodIn_app (goodIn_of _ (by decide +kernel)) ggX4_state_X4_stateOf
theorem dX4_state_0 : decode cX4_state 0 = .ok (.aload_n 0, 1) := by decide +kernel
theorem dX4_state_1 : decode cX4_state 1 = .ok (.iload_n 1, 1) := by decide +kernel
theorem dX4_state_2 : decode cX4_state 2 = .ok (.iconst 1, 1) := by decide +kernel
theorem dX4_state_3 : decode cX4_state 3 = .ok (.aload_n 0, 1) := by decide +kernel
theorem dX4_state_4 : decode cX4_state 4 = .ok (.getfield 55, 3) := by decide +kernel
theorem dX4_state_7 : decode cX4_state 7 = .ok (.invokestatic 47, 3) := by decide +kernel
theorem dX4_state_10 : decode cX4_state 10 = .ok (.ifCond .eq 7, 3) := by decide +kernel
theorem dX4_state_13 : decode cX4_state 13 = .ok (.iconst 0, 1) := by decide +kernel
theorem dX4_state_14 : decode cX4_state 14 = .ok (.goto 4, 3) := by decide +kernel
theorem dX4_state_17 : decode cX4_state 17 = .ok (.iconst 1, 1) := by decide +kernel
theorem dX4_state_18 : decode cX4_state 18 = .ok (.invokevirtual 58, 3) := by decide +kernel
theorem dX4_state_21 : decode cX4_state 21 = .ok (.ifCond .eq 7, 3) := by decide +kernel
theorem dX4_state_24 : decode cX4_state 24 = .ok (.iconst 0, 1) := by decide +kernel
theorem dX4_state_25 : decode cX4_state 25 = .ok (.goto 8, 3) := by decide +kernel
theorem dX4_state_28 : decode cX4_state 28 = .ok (.aload_n 0, 1) := by decide +kernel
theorem dX4_state_29 : decode cX4_state 29 = .ok (.iload_n 1, 1) := by decide +kernel
theorem dX4_state_30 : decode cX4_state 30 = .ok (.invokevirtual 72, 3) := by decide +kernel
theorem dX4_state_33 : decode cX4_state 33 = .ok (.ireturn, 1) := by decide +kernel
set_option maxRecDepth 20000 in
theorem ggX4_level_X4_fine : GoodIn wsX4_level wsX4_fine := goodIn_r _ [6, 7, 8, 9, 10, 11, 12, 13, 14, 15, 16, 17, 18, 19, 20, 21, 22, 23] (by decide +kernel) (by decide +kernel)
set_option maxRecDepth 20000 in
theorem gX4_level_X4_fine : GoodIn wsX4_level (wsV RX4 79 RX4 yX4_fine wsX4_fine) := goodIn_app (goodIn_of _ (by decide +kernel)) ggX4_level_X4_fine
theorem dX4_level_0 : decode cX4_level 0 = .ok (.aload_n 0, 1) := by decide +kernel
theorem dX4_level_1 : decode cX4_level 1 = .ok (.aload_n 0, 1) := by decide +kernel
theorem dX4_level_2 : decode cX4_level 2 = .ok (.getfield 66, 3) := by decide +kernel
theorem dX4_level_5 : decode cX4_level 5 = .ok (.invokevirtual 79, 3) := by decide +kernel
theorem dX4_level_8 : decode cX4_level 8 = .ok (.ireturn, 1) := by decide +kernel
set_option maxRecDepth 20000 in
theorem ggX4_firstDrift_X4_sumOf : GoodIn wsX4_firstDrift wsX4_sumOf := goodIn_r _ [7, 8, 9, 10, 11, 12, 13, 14, 15, 16, 17, 18, 19, 20, 21, 22, 23, 24, 25, 26, 27] (by decide +kernel) (by decide +kernel)
set_option maxRecDepth 20000 in
theorem gX4_firstDrift_X4_sumOf : GoodIn wsX4_firstDrift (wsV RX4 76 RX4 yX4_sumOf wsX4_sumOf) := goodIn_app (goodIn_of _ (by decide +kernel)) ggX4_firstDrift_X4_sumOf
theorem dX4_firstDrift_0 : decode cX4_firstDrift 0 = .ok (.iconst 0, 1) := by decide +kernel
theorem dX4_firstDrift_1 : decode cX4_firstDrift 1 = .ok (.istore_n 1, 1) := by decide +kernel
theorem dX4_firstDrift_2 : decode cX4_firstDrift 2 = .ok (.aload_n 0, 1) := by decide +kernel
theorem dX4_firstDrift_3 : decode cX4_firstDrift 3 = .ok (.getfield 66, 3) := by decide +kernel
theorem dX4_firstDrift_6 : decode cX4_firstDrift 6 = .ok (.istore_n 2, 1) := by decide +kernel
theorem dX4_firstDrift_7 : decode cX4_firstDrift 7 = .ok (.iload_n 2, 1) := by decide +kernel
theorem dX4_firstDrift_8 : decode cX4_firstDrift 8 = .ok (.ifCond .le 29, 3) := by decide +kernel
theorem dX4_firstDrift_11 : decode cX4_firstDrift 11 = .ok (.aload_n 0, 1) := by decide +kernel
theorem dX4_firstDrift_12 : decode cX4_firstDrift 12 = .ok (.iload_n 2, 1) := by decide +kernel
theorem dX4_firstDrift_13 : decode cX4_firstDrift 13 = .ok (.invokevirtual 76, 3) := by decide +kernel
theorem dX4_firstDrift_16 : decode cX4_firstDrift 16 = .ok (.aload_n 0, 1) := by decide +kernel
theorem dX4_firstDrift_17 : decode cX4_firstDrift 17 = .ok (.getfield 19, 3) := by decide +kernel
theorem dX4_firstDrift_20 : decode cX4_firstDrift 20 = .ok (.iload_n 2, 1) := by decide +kernel
theorem dX4_firstDrift_21 : decode cX4_firstDrift 21 = .ok (.iaload, 1) := by decide +kernel
theorem dX4_firstDrift_22 : decode cX4_firstDrift 22 = .ok (.if_icmp .ne 7, 3) := by decide +kernel
theorem dX4_firstDrift_25 : decode cX4_firstDrift 25 = .ok (.iload_n 1, 1) := by decide +kernel
theorem dX4_firstDrift_26 : decode cX4_firstDrift 26 = .ok (.goto 4, 3) := by decide +kernel
theorem dX4_firstDrift_29 : decode cX4_firstDrift 29 = .ok (.iload_n 2, 1) := by decide +kernel
theorem dX4_firstDrift_30 : decode cX4_firstDrift 30 = .ok (.istore_n 1, 1) := by decide +kernel
theorem dX4_firstDrift_31 : decode cX4_firstDrift 31 = .ok (.iinc 2 (-1), 3) := by decide +kernel
theorem dX4_firstDrift_34 : decode cX4_firstDrift 34 = .ok (.goto (-27), 3) := by decide +kernel
theorem dX4_firstDrift_37 : decode cX4_firstDrift 37 = .ok (.iload_n 1, 1) := by decide +kernel
theorem dX4_firstDrift_38 : decode cX4_firstDrift 38 = .ok (.ireturn, 1) := by decide +kernel
set_option maxRecDepth 20000 in
theorem ggX4_drifted_X4_firstDrift : GoodIn wsX4_drifted wsX4_firstDrift := goodIn_r _ [5, 6, 7, 8, 9, 10, 4, 11, 12, 13, 14, 15, 21, 22, 23, 24, 25, 26, 27, 28, 29, 30, 31, 32, 33, 34, 35, 36] (by decide +kernel) (by decide +kernel)
set_option maxRecDepth 20000 in
theorem gX4_drifted_X4_firstDrift : GoodIn wsX4_drifted (wsV RX4 82 RX4 yX4_firstDrift wsX4_firstDrift) := goodIn_app (goodIn_of _ (by decide +kernel)) ggX4_drifted_X4_firstDrift
set_option maxRecDepth 20000 in
theorem ggX4_drifted_X4_fine : GoodIn wsX4_drifted wsX4_fine := goodIn_r _ [19, 20, 21, 22, 23, 24, 25, 26, 27, 28, 29, 30, 31, 32, 33, 34, 35, 36] (by decide +kernel) (by decide +kernel)
set_option maxRecDepth 20000 in
theorem gX4_drifted_X4_fine : GoodIn wsX4_drifted (wsV RX4 79 RX4 yX4_fine wsX4_fine) := goodIn_app (goodIn_of _ (by decide +kernel)) ggX4_drifted_X4_fine
theorem dX4_drifted_0 : decode cX4_drifted 0 = .ok (.aload_n 0, 1) := by decide +kernel
theorem dX4_drifted_1 : decode cX4_drifted 1 = .ok (.aload_n 0, 1) := by decide +kernel
theorem dX4_drifted_2 : decode cX4_drifted 2 = .ok (.invokevirtual 82, 3) := by decide +kernel
theorem dX4_drifted_5 : decode cX4_drifted 5 = .ok (.invokevirtual 79, 3) := by decide +kernel
theorem dX4_drifted_8 : decode cX4_drifted 8 = .ok (.ireturn, 1) := by decide +kernel
set_option maxRecDepth 20000 in
theorem ggX4_isRow_X4_in : GoodIn wsX4_isRow wsX4_in := goodIn_r _ [4] (by decide +kernel) (by decide +kernel)
set_option maxRecDepth 20000 in
theorem gX4_isRow_X4_in : GoodIn wsX4_isRow (va_wsS RX4 47 yX4_in wsX4_in) := goodIn_app (goodIn_of _ (by decide +kernel)) ggX4_isRow_X4_in
theorem dX4_isRow_0 : decode cX4_isRow 0 = .ok (.iload_n 0, 1) := by decide +kernel
theorem dX4_isRow_1 : decode cX4_isRow 1 = .ok (.iconst 0, 1) := by decide +kernel
theorem dX4_isRow_2 : decode cX4_isRow 2 = .ok (.bipush 39, 2) := by decide +kernel
theorem dX4_isRow_4 : decode cX4_isRow 4 = .ok (.invokestatic 47, 3) := by decide +kernel
theorem dX4_isRow_7 : decode cX4_isRow 7 = .ok (.ireturn, 1) := by decide +kernel
set_option maxRecDepth 20000 in
theorem ggX4_insert_X4_isRow : GoodIn wsX4_insert wsX4_isRow := goodIn_r _ [9, 10, 11, 8, 12] (by decide +kernel) (by decide +kernel)
set_option maxRecDepth 20000 in
theorem gX4_insert_X4_isRow : GoodIn wsX4_insert (va_wsS RX4 86 yX4_isRow wsX4_isRow) := goodIn_app (goodIn_of _ (by decide +kernel)) ggX4_insert_X4_isRow
set_option maxRecDepth 20000 in
theorem ggX4_insert_X4_isValue : GoodIn wsX4_insert wsX4_isValue := goodIn_r _ [15, 16, 17] (by decide +kernel) (by decide +kernel)
set_option maxRecDepth 20000 in
theorem gX4_insert_X4_isValue : GoodIn wsX4_insert (va_wsS RX4 89 yX4_isValue wsX4_isValue) := goodIn_app (goodIn_of _ (by decide +kernel)) ggX4_insert_X4_isValue
set_option maxRecDepth 20000 in
theorem ggX4_insert_X4_refused : GoodIn wsX4_insert wsX4_refused := goodIn_r _ [21, 22, 23, 24, 25, 26, 27, 28, 29, 30, 31, 32, 33, 34, 35, 36, 37, 38] (by decide +kernel) (by decide +kernel)
set_option maxRecDepth 20000 in
theorem gX4_insert_X4_refused : GoodIn wsX4_insert (wsV RX4 58 RX4 yX4_refused wsX4_refused) := goodIn_app (goodIn_of _ (by decide +kernel)) ggX4_insert_X4_refused
theorem dX4_insert_0 : decode cX4_insert 0 = .ok (.iload_n 1, 1) := by decide +kernel
theorem dX4_insert_1 : decode cX4_insert 1 = .ok (.invokestatic 86, 3) := by decide +kernel
theorem dX4_insert_4 : decode cX4_insert 4 = .ok (.ifCond .eq 32, 3) := by decide +kernel
theorem dX4_insert_7 : decode cX4_insert 7 = .ok (.iload_n 2, 1) := by decide +kernel
theorem dX4_insert_8 : decode cX4_insert 8 = .ok (.i2l, 1) := by decide +kernel
theorem dX4_insert_9 : decode cX4_insert 9 = .ok (.invokestatic 89, 3) := by decide +kernel
theorem dX4_insert_12 : decode cX4_insert 12 = .ok (.ifCond .eq 24, 3) := by decide +kernel
theorem dX4_insert_15 : decode cX4_insert 15 = .ok (.iload_n 3, 1) := by decide +kernel
theorem dX4_insert_16 : decode cX4_insert 16 = .ok (.i2l, 1) := by decide +kernel
theorem dX4_insert_17 : decode cX4_insert 17 = .ok (.invokestatic 89, 3) := by decide +kernel
theorem dX4_insert_20 : decode cX4_insert 20 = .ok (.ifCond .eq 16, 3) := by decide +kernel
theorem dX4_insert_23 : decode cX4_insert 23 = .ok (.iload 4, 2) := by decide +kernel
theorem dX4_insert_25 : decode cX4_insert 25 = .ok (.i2l, 1) := by decide +kernel
theorem dX4_insert_26 : decode cX4_insert 26 = .ok (.invokestatic 89, 3) := by decide +kernel
theorem dX4_insert_29 : decode cX4_insert 29 = .ok (.ifCond .eq 7, 3) := by decide +kernel
theorem dX4_insert_32 : decode cX4_insert 32 = .ok (.iconst 1, 1) := by decide +kernel
theorem dX4_insert_33 : decode cX4_insert 33 = .ok (.goto 4, 3) := by decide +kernel
theorem dX4_insert_36 : decode cX4_insert 36 = .ok (.iconst 0, 1) := by decide +kernel
theorem dX4_insert_37 : decode cX4_insert 37 = .ok (.istore 5, 2) := by decide +kernel
theorem dX4_insert_39 : decode cX4_insert 39 = .ok (.aload_n 0, 1) := by decide +kernel
theorem dX4_insert_40 : decode cX4_insert 40 = .ok (.iload 5, 2) := by decide +kernel
theorem dX4_insert_42 : decode cX4_insert 42 = .ok (.ifCond .ne 7, 3) := by decide +kernel
theorem dX4_insert_45 : decode cX4_insert 45 = .ok (.iconst 1, 1) := by decide +kernel
theorem dX4_insert_46 : decode cX4_insert 46 = .ok (.goto 18, 3) := by decide +kernel
theorem dX4_insert_49 : decode cX4_insert 49 = .ok (.aload_n 0, 1) := by decide +kernel
theorem dX4_insert_50 : decode cX4_insert 50 = .ok (.getfield 22, 3) := by decide +kernel
theorem dX4_insert_53 : decode cX4_insert 53 = .ok (.iload_n 1, 1) := by decide +kernel
theorem dX4_insert_54 : decode cX4_insert 54 = .ok (.iaload, 1) := by decide +kernel
theorem dX4_insert_55 : decode cX4_insert 55 = .ok (.iconst (-1), 1) := by decide +kernel
theorem dX4_insert_56 : decode cX4_insert 56 = .ok (.if_icmp .eq 7, 3) := by decide +kernel
theorem dX4_insert_59 : decode cX4_insert 59 = .ok (.iconst 2, 1) := by decide +kernel
theorem dX4_insert_60 : decode cX4_insert 60 = .ok (.goto 4, 3) := by decide +kernel
theorem dX4_insert_63 : decode cX4_insert 63 = .ok (.iconst 0, 1) := by decide +kernel
theorem dX4_insert_64 : decode cX4_insert 64 = .ok (.invokevirtual 58, 3) := by decide +kernel
theorem dX4_insert_67 : decode cX4_insert 67 = .ok (.ifCond .eq 5, 3) := by decide +kernel
theorem dX4_insert_70 : decode cX4_insert 70 = .ok (.iconst 0, 1) := by decide +kernel
theorem dX4_insert_71 : decode cX4_insert 71 = .ok (.ireturn, 1) := by decide +kernel
theorem dX4_insert_72 : decode cX4_insert 72 = .ok (.aload_n 0, 1) := by decide +kernel
theorem dX4_insert_73 : decode cX4_insert 73 = .ok (.getfield 22, 3) := by decide +kernel
theorem dX4_insert_76 : decode cX4_insert 76 = .ok (.iload_n 1, 1) := by decide +kernel
theorem dX4_insert_77 : decode cX4_insert 77 = .ok (.aload_n 0, 1) := by decide +kernel
theorem dX4_insert_78 : decode cX4_insert 78 = .ok (.getfield 69, 3) := by decide +kernel
theorem dX4_insert_81 : decode cX4_insert 81 = .ok (.ifCond .eq 20, 3) := by decide +kernel
theorem dX4_insert_84 : decode cX4_insert 84 = .ok (.iload_n 1, 1) := by decide +kernel
theorem dX4_insert_85 : decode cX4_insert 85 = .ok (.aload_n 0, 1) := by decide +kernel
theorem dX4_insert_86 : decode cX4_insert 86 = .ok (.getfield 93, 3) := by decide +kernel
theorem dX4_insert_89 : decode cX4_insert 89 = .ok (.if_icmp .ge 12, 3) := by decide +kernel
theorem dX4_insert_92 : decode cX4_insert 92 = .ok (.aload_n 0, 1) := by decide +kernel
theorem dX4_insert_93 : decode cX4_insert 93 = .ok (.getfield 66, 3) := by decide +kernel
theorem dX4_insert_96 : decode cX4_insert 96 = .ok (.iconst 1, 1) := by decide +kernel
theorem dX4_insert_97 : decode cX4_insert 97 = .ok (.iadd, 1) := by decide +kernel
theorem dX4_insert_98 : decode cX4_insert 98 = .ok (.goto 7, 3) := by decide +kernel
theorem dX4_insert_101 : decode cX4_insert 101 = .ok (.aload_n 0, 1) := by decide +kernel
theorem dX4_insert_102 : decode cX4_insert 102 = .ok (.getfield 66, 3) := by decide +kernel
theorem dX4_insert_105 : decode cX4_insert 105 = .ok (.iastore, 1) := by decide +kernel
theorem dX4_insert_106 : decode cX4_insert 106 = .ok (.aload_n 0, 1) := by decide +kernel
theorem dX4_insert_107 : decode cX4_insert 107 = .ok (.getfield 25, 3) := by decide +kernel
theorem dX4_insert_110 : decode cX4_insert 110 = .ok (.iconst 3, 1) := by decide +kernel
theorem dX4_insert_111 : decode cX4_insert 111 = .ok (.iload_n 1, 1) := by decide +kernel
theorem dX4_insert_112 : decode cX4_insert 112 = .ok (.imul, 1) := by decide +kernel
theorem dX4_insert_113 : decode cX4_insert 113 = .ok (.iload_n 2, 1) := by decide +kernel
theorem dX4_insert_114 : decode cX4_insert 114 = .ok (.iastore, 1) := by decide +kernel
theorem dX4_insert_115 : decode cX4_insert 115 = .ok (.aload_n 0, 1) := by decide +kernel
theorem dX4_insert_116 : decode cX4_insert 116 = .ok (.getfield 25, 3) := by decide +kernel
theorem dX4_insert_119 : decode cX4_insert 119 = .ok (.iconst 3, 1) := by decide +kernel
theorem dX4_insert_120 : decode cX4_insert 120 = .ok (.iload_n 1, 1) := by decide +kernel
theorem dX4_insert_121 : decode cX4_insert 121 = .ok (.imul, 1) := by decide +kernel
theorem dX4_insert_122 : decode cX4_insert 122 = .ok (.iconst 1, 1) := by decide +kernel
theorem dX4_insert_123 : decode cX4_insert 123 = .ok (.iadd, 1) := by decide +kernel
theorem dX4_insert_124 : decode cX4_insert 124 = .ok (.iload_n 3, 1) := by decide +kernel
theorem dX4_insert_125 : decode cX4_insert 125 = .ok (.iastore, 1) := by decide +kernel
theorem dX4_insert_126 : decode cX4_insert 126 = .ok (.aload_n 0, 1) := by decide +kernel
theorem dX4_insert_127 : decode cX4_insert 127 = .ok (.getfield 25, 3) := by decide +kernel
theorem dX4_insert_130 : decode cX4_insert 130 = .ok (.iconst 3, 1) := by decide +kernel
theorem dX4_insert_131 : decode cX4_insert 131 = .ok (.iload_n 1, 1) := by decide +kernel
theorem dX4_insert_132 : decode cX4_insert 132 = .ok (.imul, 1) := by decide +kernel
theorem dX4_insert_133 : decode cX4_insert 133 = .ok (.iconst 2, 1) := by decide +kernel
theorem dX4_insert_134 : decode cX4_insert 134 = .ok (.iadd, 1) := by decide +kernel
theorem dX4_insert_135 : decode cX4_insert 135 = .ok (.iload 4, 2) := by decide +kernel
theorem dX4_insert_137 : decode cX4_insert 137 = .ok (.iastore, 1) := by decide +kernel
theorem dX4_insert_138 : decode cX4_insert 138 = .ok (.aload_n 0, 1) := by decide +kernel
theorem dX4_insert_139 : decode cX4_insert 139 = .ok (.getfield 22, 3) := by decide +kernel
theorem dX4_insert_142 : decode cX4_insert 142 = .ok (.iload_n 1, 1) := by decide +kernel
theorem dX4_insert_143 : decode cX4_insert 143 = .ok (.iaload, 1) := by decide +kernel
theorem dX4_insert_144 : decode cX4_insert 144 = .ok (.ireturn, 1) := by decide +kernel
set_option maxRecDepth 20000 in
theorem ggX4_noRow_X4_isRow : GoodIn wsX4_noRow wsX4_isRow := goodIn_r _ [5, 6, 7, 4, 8] (by decide +kernel) (by decide +kernel)
set_option maxRecDepth 20000 in
theorem gX4_noRow_X4_isRow : GoodIn wsX4_noRow (va_wsS RX4 86 yX4_isRow wsX4_isRow) := goodIn_app (goodIn_of _ (by decide +kernel)) ggX4_noRow_X4_isRow
set_option maxRecDepth 20000 in
theorem ggX4_noRow_X4_refused : GoodIn wsX4_noRow wsX4_refused := goodIn_r _ [12, 13, 14, 15, 16, 17, 18, 19, 20, 21, 22, 23, 24, 25, 26, 27, 28, 29] (by decide +kernel) (by decide +kernel)
set_option maxRecDepth 20000 in
theorem gX4_noRow_X4_refused : GoodIn wsX4_noRow (wsV RX4 58 RX4 yX4_refused wsX4_refused) := goodIn_app (goodIn_of _ (by decide +kernel)) ggX4_noRow_X4_refused
theorem dX4_noRow_0 : decode cX4_noRow 0 = .ok (.aload_n 0, 1) := by decide +kernel
theorem dX4_noRow_1 : decode cX4_noRow 1 = .ok (.iload_n 1, 1) := by decide +kernel
theorem dX4_noRow_2 : decode cX4_noRow 2 = .ok (.ifCond .eq 10, 3) := by decide +kernel
theorem dX4_noRow_5 : decode cX4_noRow 5 = .ok (.iload_n 2, 1) := by decide +kernel
theorem dX4_noRow_6 : decode cX4_noRow 6 = .ok (.invokestatic 86, 3) := by decide +kernel
theorem dX4_noRow_9 : decode cX4_noRow 9 = .ok (.ifCond .ne 7, 3) := by decide +kernel
theorem dX4_noRow_12 : decode cX4_noRow 12 = .ok (.iconst 1, 1) := by decide +kernel
theorem dX4_noRow_13 : decode cX4_noRow 13 = .ok (.goto 18, 3) := by decide +kernel
theorem dX4_noRow_16 : decode cX4_noRow 16 = .ok (.aload_n 0, 1) := by decide +kernel
theorem dX4_noRow_17 : decode cX4_noRow 17 = .ok (.getfield 22, 3) := by decide +kernel
theorem dX4_noRow_20 : decode cX4_noRow 20 = .ok (.iload_n 2, 1) := by decide +kernel
theorem dX4_noRow_21 : decode cX4_noRow 21 = .ok (.iaload, 1) := by decide +kernel
theorem dX4_noRow_22 : decode cX4_noRow 22 = .ok (.iconst (-1), 1) := by decide +kernel
theorem dX4_noRow_23 : decode cX4_noRow 23 = .ok (.if_icmp .ne 7, 3) := by decide +kernel
theorem dX4_noRow_26 : decode cX4_noRow 26 = .ok (.iconst 2, 1) := by decide +kernel
theorem dX4_noRow_27 : decode cX4_noRow 27 = .ok (.goto 4, 3) := by decide +kernel
theorem dX4_noRow_30 : decode cX4_noRow 30 = .ok (.iconst 0, 1) := by decide +kernel
theorem dX4_noRow_31 : decode cX4_noRow 31 = .ok (.invokevirtual 58, 3) := by decide +kernel
theorem dX4_noRow_34 : decode cX4_noRow 34 = .ok (.ireturn, 1) := by decide +kernel
set_option maxRecDepth 20000 in
theorem ggX4_write_X4_in : GoodIn wsX4_write wsX4_in := goodIn_r _ [5] (by decide +kernel) (by decide +kernel)
set_option maxRecDepth 20000 in
theorem gX4_write_X4_in : GoodIn wsX4_write (va_wsS RX4 47 yX4_in wsX4_in) := goodIn_app (goodIn_of _ (by decide +kernel)) ggX4_write_X4_in
set_option maxRecDepth 20000 in
theorem ggX4_write_X4_isValue : GoodIn wsX4_write wsX4_isValue := goodIn_r _ [8, 9, 10] (by decide +kernel) (by decide +kernel)
set_option maxRecDepth 20000 in
theorem gX4_write_X4_isValue : GoodIn wsX4_write (va_wsS RX4 89 yX4_isValue wsX4_isValue) := goodIn_app (goodIn_of _ (by decide +kernel)) ggX4_write_X4_isValue
set_option maxRecDepth 20000 in
theorem ggX4_write_X4_noRow : GoodIn wsX4_write wsX4_noRow := goodIn_r _ [14, 15, 16, 17, 4, 18, 2, 3, 5, 19, 20, 21, 22, 23, 24, 25, 26, 27, 28, 29, 30, 31, 32, 33, 34, 35, 36, 37, 38, 39] (by decide +kernel) (by decide +kernel)
set_option maxRecDepth 20000 in
theorem gX4_write_X4_noRow : GoodIn wsX4_write (wsV RX4 96 RX4 yX4_noRow wsX4_noRow) := goodIn_app (goodIn_of _ (by decide +kernel)) ggX4_write_X4_noRow
theorem dX4_write_0 : decode cX4_write 0 = .ok (.aload_n 0, 1) := by decide +kernel
theorem dX4_write_1 : decode cX4_write 1 = .ok (.iload_n 2, 1) := by decide +kernel
theorem dX4_write_2 : decode cX4_write 2 = .ok (.iconst 0, 1) := by decide +kernel
theorem dX4_write_3 : decode cX4_write 3 = .ok (.iconst 2, 1) := by decide +kernel
theorem dX4_write_4 : decode cX4_write 4 = .ok (.invokestatic 47, 3) := by decide +kernel
theorem dX4_write_7 : decode cX4_write 7 = .ok (.ifCond .eq 15, 3) := by decide +kernel
theorem dX4_write_10 : decode cX4_write 10 = .ok (.iload_n 3, 1) := by decide +kernel
theorem dX4_write_11 : decode cX4_write 11 = .ok (.i2l, 1) := by decide +kernel
theorem dX4_write_12 : decode cX4_write 12 = .ok (.invokestatic 89, 3) := by decide +kernel
theorem dX4_write_15 : decode cX4_write 15 = .ok (.ifCond .eq 7, 3) := by decide +kernel
theorem dX4_write_18 : decode cX4_write 18 = .ok (.iconst 1, 1) := by decide +kernel
theorem dX4_write_19 : decode cX4_write 19 = .ok (.goto 4, 3) := by decide +kernel
theorem dX4_write_22 : decode cX4_write 22 = .ok (.iconst 0, 1) := by decide +kernel
theorem dX4_write_23 : decode cX4_write 23 = .ok (.iload_n 1, 1) := by decide +kernel
theorem dX4_write_24 : decode cX4_write 24 = .ok (.invokevirtual 96, 3) := by decide +kernel
theorem dX4_write_27 : decode cX4_write 27 = .ok (.ifCond .eq 5, 3) := by decide +kernel
theorem dX4_write_30 : decode cX4_write 30 = .ok (.iconst 0, 1) := by decide +kernel
theorem dX4_write_31 : decode cX4_write 31 = .ok (.ireturn, 1) := by decide +kernel
theorem dX4_write_32 : decode cX4_write 32 = .ok (.aload_n 0, 1) := by decide +kernel
theorem dX4_write_33 : decode cX4_write 33 = .ok (.getfield 25, 3) := by decide +kernel
theorem dX4_write_36 : decode cX4_write 36 = .ok (.iconst 3, 1) := by decide +kernel
theorem dX4_write_37 : decode cX4_write 37 = .ok (.iload_n 1, 1) := by decide +kernel
theorem dX4_write_38 : decode cX4_write 38 = .ok (.imul, 1) := by decide +kernel
theorem dX4_write_39 : decode cX4_write 39 = .ok (.iload_n 2, 1) := by decide +kernel
theorem dX4_write_40 : decode cX4_write 40 = .ok (.iadd, 1) := by decide +kernel
theorem dX4_write_41 : decode cX4_write 41 = .ok (.iaload, 1) := by decide +kernel
theorem dX4_write_42 : decode cX4_write 42 = .ok (.istore 4, 2) := by decide +kernel
theorem dX4_write_44 : decode cX4_write 44 = .ok (.aload_n 0, 1) := by decide +kernel
theorem dX4_write_45 : decode cX4_write 45 = .ok (.getfield 25, 3) := by decide +kernel
theorem dX4_write_48 : decode cX4_write 48 = .ok (.iconst 3, 1) := by decide +kernel
theorem dX4_write_49 : decode cX4_write 49 = .ok (.iload_n 1, 1) := by decide +kernel
theorem dX4_write_50 : decode cX4_write 50 = .ok (.imul, 1) := by decide +kernel
theorem dX4_write_51 : decode cX4_write 51 = .ok (.iload_n 2, 1) := by decide +kernel
theorem dX4_write_52 : decode cX4_write 52 = .ok (.iadd, 1) := by decide +kernel
theorem dX4_write_53 : decode cX4_write 53 = .ok (.iload_n 3, 1) := by decide +kernel
theorem dX4_write_54 : decode cX4_write 54 = .ok (.iastore, 1) := by decide +kernel
theorem dX4_write_55 : decode cX4_write 55 = .ok (.iload 4, 2) := by decide +kernel
theorem dX4_write_57 : decode cX4_write 57 = .ok (.ireturn, 1) := by decide +kernel
set_option maxRecDepth 20000 in
theorem ggX4_delete_X4_noRow : GoodIn wsX4_delete wsX4_noRow := goodIn_r _ [6, 1, 7, 8, 5, 9, 10, 11, 12, 13, 14, 15, 16, 17, 18, 19, 20, 21, 22, 23, 24, 25, 26, 27, 28, 29, 30, 31, 32, 33] (by decide +kernel) (by decide +kernel)
set_option maxRecDepth 20000 in
theorem gX4_delete_X4_noRow : GoodIn wsX4_delete (wsV RX4 96 RX4 yX4_noRow wsX4_noRow) := goodIn_app (goodIn_of _ (by decide +kernel)) ggX4_delete_X4_noRow
theorem dX4_delete_0 : decode cX4_delete 0 = .ok (.aload_n 0, 1) := by decide +kernel
theorem dX4_delete_1 : decode cX4_delete 1 = .ok (.iconst 1, 1) := by decide +kernel
theorem dX4_delete_2 : decode cX4_delete 2 = .ok (.iload_n 1, 1) := by decide +kernel
theorem dX4_delete_3 : decode cX4_delete 3 = .ok (.invokevirtual 96, 3) := by decide +kernel
theorem dX4_delete_6 : decode cX4_delete 6 = .ok (.ifCond .eq 5, 3) := by decide +kernel
theorem dX4_delete_9 : decode cX4_delete 9 = .ok (.iconst 0, 1) := by decide +kernel
theorem dX4_delete_10 : decode cX4_delete 10 = .ok (.ireturn, 1) := by decide +kernel
theorem dX4_delete_11 : decode cX4_delete 11 = .ok (.aload_n 0, 1) := by decide +kernel
theorem dX4_delete_12 : decode cX4_delete 12 = .ok (.getfield 22, 3) := by decide +kernel
theorem dX4_delete_15 : decode cX4_delete 15 = .ok (.iload_n 1, 1) := by decide +kernel
theorem dX4_delete_16 : decode cX4_delete 16 = .ok (.iaload, 1) := by decide +kernel
theorem dX4_delete_17 : decode cX4_delete 17 = .ok (.istore_n 2, 1) := by decide +kernel
theorem dX4_delete_18 : decode cX4_delete 18 = .ok (.aload_n 0, 1) := by decide +kernel
theorem dX4_delete_19 : decode cX4_delete 19 = .ok (.getfield 22, 3) := by decide +kernel
theorem dX4_delete_22 : decode cX4_delete 22 = .ok (.iload_n 1, 1) := by decide +kernel
theorem dX4_delete_23 : decode cX4_delete 23 = .ok (.iconst (-1), 1) := by decide +kernel
theorem dX4_delete_24 : decode cX4_delete 24 = .ok (.iastore, 1) := by decide +kernel
theorem dX4_delete_25 : decode cX4_delete 25 = .ok (.iload_n 2, 1) := by decide +kernel
theorem dX4_delete_26 : decode cX4_delete 26 = .ok (.ireturn, 1) := by decide +kernel
set_option maxRecDepth 20000 in
theorem ggX4_value_X4_in : GoodIn wsX4_value wsX4_in := goodIn_r _ [5] (by decide +kernel) (by decide +kernel)
set_option maxRecDepth 20000 in
theorem gX4_value_X4_in : GoodIn wsX4_value (va_wsS RX4 47 yX4_in wsX4_in) := goodIn_app (goodIn_of _ (by decide +kernel)) ggX4_value_X4_in
set_option maxRecDepth 20000 in
theorem ggX4_value_X4_noRow : GoodIn wsX4_value wsX4_noRow := goodIn_r _ [9, 10, 11, 12, 4, 13, 2, 3, 5, 14, 15, 16, 17, 18, 19, 20, 21, 22, 23, 24, 25, 26, 27, 28, 29, 30, 31, 32, 33, 34] (by decide +kernel) (by decide +kernel)
set_option maxRecDepth 20000 in
theorem gX4_value_X4_noRow : GoodIn wsX4_value (wsV RX4 96 RX4 yX4_noRow wsX4_noRow) := goodIn_app (goodIn_of _ (by decide +kernel)) ggX4_value_X4_noRow
theorem dX4_value_0 : decode cX4_value 0 = .ok (.aload_n 0, 1) := by decide +kernel
theorem dX4_value_1 : decode cX4_value 1 = .ok (.iload_n 2, 1) := by decide +kernel
theorem dX4_value_2 : decode cX4_value 2 = .ok (.iconst 0, 1) := by decide +kernel
theorem dX4_value_3 : decode cX4_value 3 = .ok (.iconst 2, 1) := by decide +kernel
theorem dX4_value_4 : decode cX4_value 4 = .ok (.invokestatic 47, 3) := by decide +kernel
theorem dX4_value_7 : decode cX4_value 7 = .ok (.iload_n 1, 1) := by decide +kernel
theorem dX4_value_8 : decode cX4_value 8 = .ok (.invokevirtual 96, 3) := by decide +kernel
theorem dX4_value_11 : decode cX4_value 11 = .ok (.ifCond .eq 7, 3) := by decide +kernel
theorem dX4_value_14 : decode cX4_value 14 = .ok (.iconst 0, 1) := by decide +kernel
theorem dX4_value_15 : decode cX4_value 15 = .ok (.goto 13, 3) := by decide +kernel
theorem dX4_value_18 : decode cX4_value 18 = .ok (.aload_n 0, 1) := by decide +kernel
theorem dX4_value_19 : decode cX4_value 19 = .ok (.getfield 25, 3) := by decide +kernel
theorem dX4_value_22 : decode cX4_value 22 = .ok (.iconst 3, 1) := by decide +kernel
theorem dX4_value_23 : decode cX4_value 23 = .ok (.iload_n 1, 1) := by decide +kernel
theorem dX4_value_24 : decode cX4_value 24 = .ok (.imul, 1) := by decide +kernel
theorem dX4_value_25 : decode cX4_value 25 = .ok (.iload_n 2, 1) := by decide +kernel
theorem dX4_value_26 : decode cX4_value 26 = .ok (.iadd, 1) := by decide +kernel
theorem dX4_value_27 : decode cX4_value 27 = .ok (.iaload, 1) := by decide +kernel
theorem dX4_value_28 : decode cX4_value 28 = .ok (.ireturn, 1) := by decide +kernel
set_option maxRecDepth 20000 in
theorem ggX4_version_X4_isRow : GoodIn wsX4_version wsX4_isRow := goodIn_r _ [5, 6, 7, 4, 8] (by decide +kernel) (by decide +kernel)
set_option maxRecDepth 20000 in
theorem gX4_version_X4_isRow : GoodIn wsX4_version (va_wsS RX4 86 yX4_isRow wsX4_isRow) := goodIn_app (goodIn_of _ (by decide +kernel)) ggX4_version_X4_isRow
set_option maxRecDepth 20000 in
theorem ggX4_version_X4_refused : GoodIn wsX4_version wsX4_refused := goodIn_r _ [12, 13, 14, 15, 16, 17, 18, 19, 20, 21, 22, 23, 24, 25, 26, 27, 28, 29] (by decide +kernel) (by decide +kernel)
set_option maxRecDepth 20000 in
theorem gX4_version_X4_refused : GoodIn wsX4_version (wsV RX4 58 RX4 yX4_refused wsX4_refused) := goodIn_app (goodIn_of _ (by decide +kernel)) ggX4_version_X4_refused
theorem dX4_version_0 : decode cX4_version 0 = .ok (.aload_n 0, 1) := by decide +kernel
theorem dX4_version_1 : decode cX4_version 1 = .ok (.iload_n 1, 1) := by decide +kernel
theorem dX4_version_2 : decode cX4_version 2 = .ok (.invokestatic 86, 3) := by decide +kernel
theorem dX4_version_5 : decode cX4_version 5 = .ok (.ifCond .eq 7, 3) := by decide +kernel
theorem dX4_version_8 : decode cX4_version 8 = .ok (.iconst 0, 1) := by decide +kernel
theorem dX4_version_9 : decode cX4_version 9 = .ok (.goto 4, 3) := by decide +kernel
theorem dX4_version_12 : decode cX4_version 12 = .ok (.iconst 1, 1) := by decide +kernel
theorem dX4_version_13 : decode cX4_version 13 = .ok (.invokevirtual 58, 3) := by decide +kernel
theorem dX4_version_16 : decode cX4_version 16 = .ok (.ifCond .eq 7, 3) := by decide +kernel
theorem dX4_version_19 : decode cX4_version 19 = .ok (.iconst 0, 1) := by decide +kernel
theorem dX4_version_20 : decode cX4_version 20 = .ok (.goto 9, 3) := by decide +kernel
theorem dX4_version_23 : decode cX4_version 23 = .ok (.aload_n 0, 1) := by decide +kernel
theorem dX4_version_24 : decode cX4_version 24 = .ok (.getfield 22, 3) := by decide +kernel
theorem dX4_version_27 : decode cX4_version 27 = .ok (.iload_n 1, 1) := by decide +kernel
theorem dX4_version_28 : decode cX4_version 28 = .ok (.iaload, 1) := by decide +kernel
theorem dX4_version_29 : decode cX4_version 29 = .ok (.ireturn, 1) := by decide +kernel
set_option maxRecDepth 20000 in
theorem ggX4_rowsAt_X4_in : GoodIn wsX4_rowsAt wsX4_in := goodIn_r _ [5] (by decide +kernel) (by decide +kernel)
set_option maxRecDepth 20000 in
theorem gX4_rowsAt_X4_in : GoodIn wsX4_rowsAt (va_wsS RX4 47 yX4_in wsX4_in) := goodIn_app (goodIn_of _ (by decide +kernel)) ggX4_rowsAt_X4_in
set_option maxRecDepth 20000 in
theorem ggX4_rowsAt_X4_refused : GoodIn wsX4_rowsAt wsX4_refused := goodIn_r _ [9, 10, 11, 12, 13, 14, 15, 16, 17, 18, 19, 20, 21, 22, 23, 24, 25, 26] (by decide +kernel) (by decide +kernel)
set_option maxRecDepth 20000 in
theorem gX4_rowsAt_X4_refused : GoodIn wsX4_rowsAt (wsV RX4 58 RX4 yX4_refused wsX4_refused) := goodIn_app (goodIn_of _ (by decide +kernel)) ggX4_rowsAt_X4_refused
theorem dX4_rowsAt_0 : decode cX4_rowsAt 0 = .ok (.iconst 0, 1) := by decide +kernel
theorem dX4_rowsAt_1 : decode cX4_rowsAt 1 = .ok (.istore_n 2, 1) := by decide +kernel
theorem dX4_rowsAt_2 : decode cX4_rowsAt 2 = .ok (.iconst 0, 1) := by decide +kernel
theorem dX4_rowsAt_3 : decode cX4_rowsAt 3 = .ok (.istore_n 3, 1) := by decide +kernel
theorem dX4_rowsAt_4 : decode cX4_rowsAt 4 = .ok (.iload_n 3, 1) := by decide +kernel
theorem dX4_rowsAt_5 : decode cX4_rowsAt 5 = .ok (.bipush 40, 2) := by decide +kernel
theorem dX4_rowsAt_7 : decode cX4_rowsAt 7 = .ok (.if_icmp .ge 27, 3) := by decide +kernel
theorem dX4_rowsAt_10 : decode cX4_rowsAt 10 = .ok (.iload_n 2, 1) := by decide +kernel
theorem dX4_rowsAt_11 : decode cX4_rowsAt 11 = .ok (.aload_n 0, 1) := by decide +kernel
theorem dX4_rowsAt_12 : decode cX4_rowsAt 12 = .ok (.getfield 22, 3) := by decide +kernel
theorem dX4_rowsAt_15 : decode cX4_rowsAt 15 = .ok (.iload_n 3, 1) := by decide +kernel
theorem dX4_rowsAt_16 : decode cX4_rowsAt 16 = .ok (.iaload, 1) := by decide +kernel
theorem dX4_rowsAt_17 : decode cX4_rowsAt 17 = .ok (.iload_n 1, 1) := by decide +kernel
theorem dX4_rowsAt_18 : decode cX4_rowsAt 18 = .ok (.if_icmp .ne 7, 3) := by decide +kernel
theorem dX4_rowsAt_21 : decode cX4_rowsAt 21 = .ok (.iconst 1, 1) := by decide +kernel
theorem dX4_rowsAt_22 : decode cX4_rowsAt 22 = .ok (.goto 4, 3) := by decide +kernel
theorem dX4_rowsAt_25 : decode cX4_rowsAt 25 = .ok (.iconst 0, 1) := by decide +kernel
theorem dX4_rowsAt_26 : decode cX4_rowsAt 26 = .ok (.iadd, 1) := by decide +kernel
theorem dX4_rowsAt_27 : decode cX4_rowsAt 27 = .ok (.istore_n 2, 1) := by decide +kernel
theorem dX4_rowsAt_28 : decode cX4_rowsAt 28 = .ok (.iinc 3 1, 3) := by decide +kernel
theorem dX4_rowsAt_31 : decode cX4_rowsAt 31 = .ok (.goto (-27), 3) := by decide +kernel
theorem dX4_rowsAt_34 : decode cX4_rowsAt 34 = .ok (.aload_n 0, 1) := by decide +kernel
theorem dX4_rowsAt_35 : decode cX4_rowsAt 35 = .ok (.iload_n 1, 1) := by decide +kernel
theorem dX4_rowsAt_36 : decode cX4_rowsAt 36 = .ok (.iconst 0, 1) := by decide +kernel
theorem dX4_rowsAt_37 : decode cX4_rowsAt 37 = .ok (.bipush 12, 2) := by decide +kernel
theorem dX4_rowsAt_39 : decode cX4_rowsAt 39 = .ok (.invokestatic 47, 3) := by decide +kernel
theorem dX4_rowsAt_42 : decode cX4_rowsAt 42 = .ok (.ifCond .eq 7, 3) := by decide +kernel
theorem dX4_rowsAt_45 : decode cX4_rowsAt 45 = .ok (.iconst 0, 1) := by decide +kernel
theorem dX4_rowsAt_46 : decode cX4_rowsAt 46 = .ok (.goto 4, 3) := by decide +kernel
theorem dX4_rowsAt_49 : decode cX4_rowsAt 49 = .ok (.iconst 1, 1) := by decide +kernel
theorem dX4_rowsAt_50 : decode cX4_rowsAt 50 = .ok (.invokevirtual 58, 3) := by decide +kernel
theorem dX4_rowsAt_53 : decode cX4_rowsAt 53 = .ok (.ifCond .eq 7, 3) := by decide +kernel
theorem dX4_rowsAt_56 : decode cX4_rowsAt 56 = .ok (.iconst 0, 1) := by decide +kernel
theorem dX4_rowsAt_57 : decode cX4_rowsAt 57 = .ok (.goto 4, 3) := by decide +kernel
theorem dX4_rowsAt_60 : decode cX4_rowsAt 60 = .ok (.iload_n 2, 1) := by decide +kernel
theorem dX4_rowsAt_61 : decode cX4_rowsAt 61 = .ok (.ireturn, 1) := by decide +kernel
theorem dX4_takeSpare_0 : decode cX4_takeSpare 0 = .ok (.iconst 0, 1) := by decide +kernel
theorem dX4_takeSpare_1 : decode cX4_takeSpare 1 = .ok (.istore_n 2, 1) := by decide +kernel
theorem dX4_takeSpare_2 : decode cX4_takeSpare 2 = .ok (.iload_n 2, 1) := by decide +kernel
theorem dX4_takeSpare_3 : decode cX4_takeSpare 3 = .ok (.iconst 3, 1) := by decide +kernel
theorem dX4_takeSpare_4 : decode cX4_takeSpare 4 = .ok (.if_icmp .ge 26, 3) := by decide +kernel
theorem dX4_takeSpare_7 : decode cX4_takeSpare 7 = .ok (.aload_n 0, 1) := by decide +kernel
theorem dX4_takeSpare_8 : decode cX4_takeSpare 8 = .ok (.getfield 28, 3) := by decide +kernel
theorem dX4_takeSpare_11 : decode cX4_takeSpare 11 = .ok (.iload_n 2, 1) := by decide +kernel
theorem dX4_takeSpare_12 : decode cX4_takeSpare 12 = .ok (.aload_n 0, 1) := by decide +kernel
theorem dX4_takeSpare_13 : decode cX4_takeSpare 13 = .ok (.getfield 25, 3) := by decide +kernel
theorem dX4_takeSpare_16 : decode cX4_takeSpare 16 = .ok (.iconst 3, 1) := by decide +kernel
theorem dX4_takeSpare_17 : decode cX4_takeSpare 17 = .ok (.iload_n 1, 1) := by decide +kernel
theorem dX4_takeSpare_18 : decode cX4_takeSpare 18 = .ok (.imul, 1) := by decide +kernel
theorem dX4_takeSpare_19 : decode cX4_takeSpare 19 = .ok (.iload_n 2, 1) := by decide +kernel
theorem dX4_takeSpare_20 : decode cX4_takeSpare 20 = .ok (.iadd, 1) := by decide +kernel
theorem dX4_takeSpare_21 : decode cX4_takeSpare 21 = .ok (.iaload, 1) := by decide +kernel
theorem dX4_takeSpare_22 : decode cX4_takeSpare 22 = .ok (.i2l, 1) := by decide +kernel
theorem dX4_takeSpare_23 : decode cX4_takeSpare 23 = .ok (.lastore, 1) := by decide +kernel
theorem dX4_takeSpare_24 : decode cX4_takeSpare 24 = .ok (.iinc 2 1, 3) := by decide +kernel
theorem dX4_takeSpare_27 : decode cX4_takeSpare 27 = .ok (.goto (-25), 3) := by decide +kernel
theorem dX4_takeSpare_30 : decode cX4_takeSpare 30 = .ok (.return_, 1) := by decide +kernel
set_option maxRecDepth 20000 in
theorem ggX4_tries_X4_isValue : GoodIn wsX4_tries wsX4_isValue := goodIn_r _ [8, 9, 10] (by decide +kernel) (by decide +kernel)
set_option maxRecDepth 20000 in
theorem gX4_tries_X4_isValue : GoodIn wsX4_tries (va_wsS RX4 89 yX4_isValue wsX4_isValue) := goodIn_app (goodIn_of _ (by decide +kernel)) ggX4_tries_X4_isValue
theorem dX4_tries_0 : decode cX4_tries 0 = .ok (.aload_n 0, 1) := by decide +kernel
theorem dX4_tries_1 : decode cX4_tries 1 = .ok (.getfield 13, 3) := by decide +kernel
theorem dX4_tries_4 : decode cX4_tries 4 = .ok (.iload_n 1, 1) := by decide +kernel
