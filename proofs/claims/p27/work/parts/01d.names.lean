theorem dX3_rowsAt_25 : decode cX3_rowsAt 25 = .ok (.invokevirtual 127, 3) := by decide +kernel
theorem dX3_rowsAt_28 : decode cX3_rowsAt 28 = .ok (.ireturn, 1) := by decide +kernel
set_option maxRecDepth 20000 in
theorem ggX3_valueAt_X3_requireId : GoodIn wsX3_valueAt wsX3_requireId := goodIn_ca (goodIn_r _ [11, 1, 2] (by decide +kernel) (by decide +kernel)) (goodIn_sub (fun _ h => List.mem_cons_of_mem _ (List.mem_append_left _ (List.mem_append_left _ (List.mem_append_right _ h)))) (by decide +kernel))
set_option maxRecDepth 20000 in
theorem gX3_valueAt_X3_requireId : GoodIn wsX3_valueAt (va_wsS RX3 87 yX3_requireId wsX3_requireId) := goodIn_app (goodIn_of _ (by decide +kernel)) ggX3_valueAt_X3_requireId
set_option maxRecDepth 20000 in
theorem ggX3_valueAt_X3_requireColumn : GoodIn wsX3_valueAt wsX3_requireColumn := goodIn_ca (goodIn_r _ [14, 1, 2, 15, 16, 10, 17] (by decide +kernel) (by decide +kernel)) (goodIn_sub (fun _ h => List.mem_cons_of_mem _ (List.mem_append_left _ (List.mem_append_left _ (List.mem_append_right _ h)))) (by decide +kernel))
set_option maxRecDepth 20000 in
theorem gX3_valueAt_X3_requireColumn : GoodIn wsX3_valueAt (va_wsS RX3 109 yX3_requireColumn wsX3_requireColumn) := goodIn_app (goodIn_of _ (by decide +kernel)) ggX3_valueAt_X3_requireColumn
set_option maxRecDepth 20000 in
theorem ggX3_valueAt_X0_count : GoodIn wsX3_valueAt wsX0_count := goodIn_r _ [22, 23, 81, 82, 83, 84, 85] (by decide +kernel) (by decide +kernel)
set_option maxRecDepth 20000 in
theorem gX3_valueAt_X0_count : GoodIn wsX3_valueAt (wsV RX3 78 RX0 yX0_count wsX0_count) := goodIn_app (goodIn_of _ (by decide +kernel)) ggX3_valueAt_X0_count
set_option maxRecDepth 20000 in
theorem ggX3_valueAt_X3_requirePresent : GoodIn wsX3_valueAt wsX3_requirePresent := goodIn_ca (goodIn_r _ [27, 28, 29, 6, 30, 31, 32, 33, 34, 35, 74, 75, 76, 77, 78, 79, 80, 86, 87] (by decide +kernel) (by decide +kernel)) (goodIn_sub (fun _ h => List.mem_cons_of_mem _ (List.mem_append_right _ h)) (by decide +kernel))
set_option maxRecDepth 20000 in
theorem gX3_valueAt_X3_requirePresent : GoodIn wsX3_valueAt (wsV RX3 112 RX3 yX3_requirePresent wsX3_requirePresent) := goodIn_app (goodIn_of _ (by decide +kernel)) ggX3_valueAt_X3_requirePresent
set_option maxRecDepth 20000 in
theorem ggX3_valueAt_X2_copyRow : GoodIn wsX3_valueAt wsX2_copyRow := goodIn_r _ [39, 40, 41, 42, 33, 43, 44, 86, 87] (by decide +kernel) (by decide +kernel)
set_option maxRecDepth 20000 in
theorem gX3_valueAt_X2_copyRow : GoodIn wsX3_valueAt (wsV RX3 132 RX2 yX2_copyRow wsX2_copyRow) := goodIn_app (goodIn_of _ (by decide +kernel)) ggX3_valueAt_X2_copyRow
set_option maxRecDepth 20000 in
theorem ggX3_valueAt_X2_versionOf : GoodIn wsX3_valueAt wsX2_versionOf := goodIn_r _ [48, 35, 86, 87] (by decide +kernel) (by decide +kernel)
set_option maxRecDepth 20000 in
theorem gX3_valueAt_X2_versionOf : GoodIn wsX3_valueAt (wsV RX3 119 RX2 yX2_versionOf wsX2_versionOf) := goodIn_app (goodIn_of _ (by decide +kernel)) ggX3_valueAt_X2_versionOf
set_option maxRecDepth 20000 in
theorem ggX3_valueAt_X3_bringTried : GoodIn wsX3_valueAt wsX3_bringTried := goodIn_r _ [52, 5, 7, 53, 54, 55, 21, 56, 57, 58, 59, 60, 61, 62, 63, 10, 64, 65, 66, 67, 68, 69, 70, 71, 72, 73, 74, 75, 76, 77, 78, 79, 80, 81, 82, 83, 84, 85] (by decide +kernel) (by decide +kernel)
set_option maxRecDepth 20000 in
theorem gX3_valueAt_X3_bringTried : GoodIn wsX3_valueAt (wsV RX3 136 RX3 yX3_bringTried wsX3_bringTried) := goodIn_app (goodIn_of _ (by decide +kernel)) ggX3_valueAt_X3_bringTried
theorem dX3_valueAt_0 : decode cX3_valueAt 0 = .ok (.iload_n 1, 1) := by decide +kernel
theorem dX3_valueAt_1 : decode cX3_valueAt 1 = .ok (.invokestatic 87, 3) := by decide +kernel
theorem dX3_valueAt_4 : decode cX3_valueAt 4 = .ok (.iload_n 2, 1) := by decide +kernel
theorem dX3_valueAt_5 : decode cX3_valueAt 5 = .ok (.invokestatic 109, 3) := by decide +kernel
theorem dX3_valueAt_8 : decode cX3_valueAt 8 = .ok (.iload_n 3, 1) := by decide +kernel
theorem dX3_valueAt_9 : decode cX3_valueAt 9 = .ok (.ifCond .lt 14, 3) := by decide +kernel
theorem dX3_valueAt_12 : decode cX3_valueAt 12 = .ok (.iload_n 3, 1) := by decide +kernel
theorem dX3_valueAt_13 : decode cX3_valueAt 13 = .ok (.aload_n 0, 1) := by decide +kernel
theorem dX3_valueAt_14 : decode cX3_valueAt 14 = .ok (.getfield 10, 3) := by decide +kernel
theorem dX3_valueAt_17 : decode cX3_valueAt 17 = .ok (.invokevirtual 78, 3) := by decide +kernel
theorem dX3_valueAt_20 : decode cX3_valueAt 20 = .ok (.if_icmp .le 13, 3) := by decide +kernel
theorem dX3_valueAt_23 : decode cX3_valueAt 23 = .ok (.new 122, 3) := by decide +kernel
theorem dX3_valueAt_26 : decode cX3_valueAt 26 = .ok (.dup, 1) := by decide +kernel
theorem dX3_valueAt_27 : decode cX3_valueAt 27 = .ok (.ldc 130, 2) := by decide +kernel
theorem dX3_valueAt_29 : decode cX3_valueAt 29 = .ok (.invokespecial 126, 3) := by decide +kernel
theorem dX3_valueAt_32 : decode cX3_valueAt 32 = .ok (.athrow, 1) := by decide +kernel
theorem dX3_valueAt_33 : decode cX3_valueAt 33 = .ok (.aload_n 0, 1) := by decide +kernel
theorem dX3_valueAt_34 : decode cX3_valueAt 34 = .ok (.iload_n 1, 1) := by decide +kernel
theorem dX3_valueAt_35 : decode cX3_valueAt 35 = .ok (.invokevirtual 112, 3) := by decide +kernel
theorem dX3_valueAt_38 : decode cX3_valueAt 38 = .ok (.aload_n 0, 1) := by decide +kernel
theorem dX3_valueAt_39 : decode cX3_valueAt 39 = .ok (.getfield 19, 3) := by decide +kernel
theorem dX3_valueAt_42 : decode cX3_valueAt 42 = .ok (.iload_n 1, 1) := by decide +kernel
theorem dX3_valueAt_43 : decode cX3_valueAt 43 = .ok (.aload_n 0, 1) := by decide +kernel
theorem dX3_valueAt_44 : decode cX3_valueAt 44 = .ok (.getfield 30, 3) := by decide +kernel
theorem dX3_valueAt_47 : decode cX3_valueAt 47 = .ok (.invokevirtual 132, 3) := by decide +kernel
theorem dX3_valueAt_50 : decode cX3_valueAt 50 = .ok (.aload_n 0, 1) := by decide +kernel
theorem dX3_valueAt_51 : decode cX3_valueAt 51 = .ok (.aload_n 0, 1) := by decide +kernel
theorem dX3_valueAt_52 : decode cX3_valueAt 52 = .ok (.getfield 19, 3) := by decide +kernel
theorem dX3_valueAt_55 : decode cX3_valueAt 55 = .ok (.iload_n 1, 1) := by decide +kernel
theorem dX3_valueAt_56 : decode cX3_valueAt 56 = .ok (.invokevirtual 119, 3) := by decide +kernel
theorem dX3_valueAt_59 : decode cX3_valueAt 59 = .ok (.iload_n 3, 1) := by decide +kernel
theorem dX3_valueAt_60 : decode cX3_valueAt 60 = .ok (.invokevirtual 136, 3) := by decide +kernel
theorem dX3_valueAt_63 : decode cX3_valueAt 63 = .ok (.ifCond .ne 13, 3) := by decide +kernel
theorem dX3_valueAt_66 : decode cX3_valueAt 66 = .ok (.new 46, 3) := by decide +kernel
theorem dX3_valueAt_69 : decode cX3_valueAt 69 = .ok (.dup, 1) := by decide +kernel
theorem dX3_valueAt_70 : decode cX3_valueAt 70 = .ok (.ldc 140, 2) := by decide +kernel
theorem dX3_valueAt_72 : decode cX3_valueAt 72 = .ok (.invokespecial 50, 3) := by decide +kernel
theorem dX3_valueAt_75 : decode cX3_valueAt 75 = .ok (.athrow, 1) := by decide +kernel
theorem dX3_valueAt_76 : decode cX3_valueAt 76 = .ok (.aload_n 0, 1) := by decide +kernel
theorem dX3_valueAt_77 : decode cX3_valueAt 77 = .ok (.getfield 30, 3) := by decide +kernel
theorem dX3_valueAt_80 : decode cX3_valueAt 80 = .ok (.iload_n 2, 1) := by decide +kernel
theorem dX3_valueAt_81 : decode cX3_valueAt 81 = .ok (.iaload, 1) := by decide +kernel
theorem dX3_valueAt_82 : decode cX3_valueAt 82 = .ok (.ireturn, 1) := by decide +kernel
set_option maxRecDepth 20000 in
theorem ggX3_take_X3_requireWorker : GoodIn wsX3_take wsX3_requireWorker := goodIn_ca (goodIn_r _ [9, 1, 2] (by decide +kernel) (by decide +kernel)) (goodIn_sub (fun _ h => List.mem_cons_of_mem _ (List.mem_append_left _ (List.mem_append_right _ h))) (by decide +kernel))
set_option maxRecDepth 20000 in
theorem gX3_take_X3_requireWorker : GoodIn wsX3_take (va_wsS RX3 142 yX3_requireWorker wsX3_requireWorker) := goodIn_app (goodIn_of _ (by decide +kernel)) ggX3_take_X3_requireWorker
set_option maxRecDepth 20000 in
theorem ggX3_take_X3_requireNotCrashed : GoodIn wsX3_take wsX3_requireNotCrashed := goodIn_ca (goodIn_r _ [13, 3, 4, 5, 14, 15, 16, 17, 18, 19, 31, 32, 33, 34, 35, 36, 37, 38, 39, 40, 41] (by decide +kernel) (by decide +kernel)) (goodIn_sub (fun _ h => List.mem_cons_of_mem _ (List.mem_append_right _ h)) (by decide +kernel))
set_option maxRecDepth 20000 in
theorem gX3_take_X3_requireNotCrashed : GoodIn wsX3_take (wsV RX3 147 RX3 yX3_requireNotCrashed wsX3_requireNotCrashed) := goodIn_app (goodIn_of _ (by decide +kernel)) ggX3_take_X3_requireNotCrashed
set_option maxRecDepth 20000 in
theorem ggX3_take_X1_owner : GoodIn wsX3_take wsX1_owner := goodIn_r _ [23, 24, 25, 26, 38, 39, 40, 41] (by decide +kernel) (by decide +kernel)
set_option maxRecDepth 20000 in
theorem gX3_take_X1_owner : GoodIn wsX3_take (wsV RX3 150 RX1 yX1_owner wsX1_owner) := goodIn_app (goodIn_of _ (by decide +kernel)) ggX3_take_X1_owner
set_option maxRecDepth 20000 in
theorem ggX3_take_X1_grant : GoodIn wsX3_take wsX1_grant := goodIn_r _ [30, 26, 24, 25, 38, 39, 40, 41] (by decide +kernel) (by decide +kernel)
set_option maxRecDepth 20000 in
theorem gX3_take_X1_grant : GoodIn wsX3_take (wsV RX3 155 RX1 yX1_grant wsX1_grant) := goodIn_app (goodIn_of _ (by decide +kernel)) ggX3_take_X1_grant
theorem dX3_take_0 : decode cX3_take 0 = .ok (.iload_n 1, 1) := by decide +kernel
theorem dX3_take_1 : decode cX3_take 1 = .ok (.invokestatic 142, 3) := by decide +kernel
theorem dX3_take_4 : decode cX3_take 4 = .ok (.iload_n 2, 1) := by decide +kernel
theorem dX3_take_5 : decode cX3_take 5 = .ok (.iconst 1, 1) := by decide +kernel
theorem dX3_take_6 : decode cX3_take 6 = .ok (.if_icmp .lt 9, 3) := by decide +kernel
theorem dX3_take_9 : decode cX3_take 9 = .ok (.iload_n 2, 1) := by decide +kernel
theorem dX3_take_10 : decode cX3_take 10 = .ok (.bipush 100, 2) := by decide +kernel
theorem dX3_take_12 : decode cX3_take 12 = .ok (.if_icmp .le 13, 3) := by decide +kernel
theorem dX3_take_15 : decode cX3_take 15 = .ok (.new 122, 3) := by decide +kernel
theorem dX3_take_18 : decode cX3_take 18 = .ok (.dup, 1) := by decide +kernel
theorem dX3_take_19 : decode cX3_take 19 = .ok (.ldc 145, 2) := by decide +kernel
theorem dX3_take_21 : decode cX3_take 21 = .ok (.invokespecial 126, 3) := by decide +kernel
theorem dX3_take_24 : decode cX3_take 24 = .ok (.athrow, 1) := by decide +kernel
theorem dX3_take_25 : decode cX3_take 25 = .ok (.aload_n 0, 1) := by decide +kernel
theorem dX3_take_26 : decode cX3_take 26 = .ok (.iload_n 1, 1) := by decide +kernel
theorem dX3_take_27 : decode cX3_take 27 = .ok (.invokevirtual 147, 3) := by decide +kernel
theorem dX3_take_30 : decode cX3_take 30 = .ok (.aload_n 0, 1) := by decide +kernel
theorem dX3_take_31 : decode cX3_take 31 = .ok (.getfield 26, 3) := by decide +kernel
theorem dX3_take_34 : decode cX3_take 34 = .ok (.invokevirtual 150, 3) := by decide +kernel
theorem dX3_take_37 : decode cX3_take 37 = .ok (.istore_n 3, 1) := by decide +kernel
theorem dX3_take_38 : decode cX3_take 38 = .ok (.iload_n 3, 1) := by decide +kernel
theorem dX3_take_39 : decode cX3_take 39 = .ok (.iconst (-1), 1) := by decide +kernel
theorem dX3_take_40 : decode cX3_take 40 = .ok (.if_icmp .eq 18, 3) := by decide +kernel
theorem dX3_take_43 : decode cX3_take 43 = .ok (.iload_n 3, 1) := by decide +kernel
theorem dX3_take_44 : decode cX3_take 44 = .ok (.iload_n 1, 1) := by decide +kernel
theorem dX3_take_45 : decode cX3_take 45 = .ok (.if_icmp .eq 13, 3) := by decide +kernel
theorem dX3_take_48 : decode cX3_take 48 = .ok (.new 46, 3) := by decide +kernel
theorem dX3_take_51 : decode cX3_take 51 = .ok (.dup, 1) := by decide +kernel
theorem dX3_take_52 : decode cX3_take 52 = .ok (.ldc 153, 2) := by decide +kernel
theorem dX3_take_54 : decode cX3_take 54 = .ok (.invokespecial 50, 3) := by decide +kernel
theorem dX3_take_57 : decode cX3_take 57 = .ok (.athrow, 1) := by decide +kernel
theorem dX3_take_58 : decode cX3_take 58 = .ok (.aload_n 0, 1) := by decide +kernel
theorem dX3_take_59 : decode cX3_take 59 = .ok (.getfield 26, 3) := by decide +kernel
theorem dX3_take_62 : decode cX3_take 62 = .ok (.iload_n 1, 1) := by decide +kernel
theorem dX3_take_63 : decode cX3_take 63 = .ok (.iload_n 2, 1) := by decide +kernel
theorem dX3_take_64 : decode cX3_take 64 = .ok (.invokevirtual 155, 3) := by decide +kernel
theorem dX3_take_67 : decode cX3_take 67 = .ok (.ireturn, 1) := by decide +kernel
set_option maxRecDepth 20000 in
theorem ggX3_giveBack_X3_requireWorker : GoodIn wsX3_giveBack wsX3_requireWorker := goodIn_ca (goodIn_r _ [5, 6, 7] (by decide +kernel) (by decide +kernel)) (goodIn_sub (fun _ h => List.mem_cons_of_mem _ (List.mem_append_left _ (List.mem_append_right _ h))) (by decide +kernel))
set_option maxRecDepth 20000 in
theorem gX3_giveBack_X3_requireWorker : GoodIn wsX3_giveBack (va_wsS RX3 142 yX3_requireWorker wsX3_requireWorker) := goodIn_app (goodIn_of _ (by decide +kernel)) ggX3_giveBack_X3_requireWorker
set_option maxRecDepth 20000 in
theorem ggX3_giveBack_X3_requireAtWork : GoodIn wsX3_giveBack wsX3_requireAtWork := goodIn_ca (goodIn_r _ [11, 12, 13, 1, 14, 15, 16, 4, 17, 18, 19, 20, 21, 22, 23, 24, 25, 26, 27, 28, 29, 30, 35, 36, 37, 38, 39, 40, 41, 42, 43, 44, 45] (by decide +kernel) (by decide +kernel)) (goodIn_sub (fun _ h => List.mem_cons_of_mem _ (List.mem_append_right _ h)) (by decide +kernel))
set_option maxRecDepth 20000 in
theorem gX3_giveBack_X3_requireAtWork : GoodIn wsX3_giveBack (wsV RX3 158 RX3 yX3_requireAtWork wsX3_requireAtWork) := goodIn_app (goodIn_of _ (by decide +kernel)) ggX3_giveBack_X3_requireAtWork
set_option maxRecDepth 20000 in
theorem ggX3_giveBack_X1_release : GoodIn wsX3_giveBack wsX1_release := goodIn_r _ [34, 30, 42, 43, 44, 45] (by decide +kernel) (by decide +kernel)
set_option maxRecDepth 20000 in
theorem gX3_giveBack_X1_release : GoodIn wsX3_giveBack (wsV RX3 161 RX1 yX1_release wsX1_release) := goodIn_app (goodIn_of _ (by decide +kernel)) ggX3_giveBack_X1_release
theorem dX3_giveBack_0 : decode cX3_giveBack 0 = .ok (.iload_n 1, 1) := by decide +kernel
theorem dX3_giveBack_1 : decode cX3_giveBack 1 = .ok (.invokestatic 142, 3) := by decide +kernel
theorem dX3_giveBack_4 : decode cX3_giveBack 4 = .ok (.aload_n 0, 1) := by decide +kernel
theorem dX3_giveBack_5 : decode cX3_giveBack 5 = .ok (.iload_n 1, 1) := by decide +kernel
theorem dX3_giveBack_6 : decode cX3_giveBack 6 = .ok (.invokevirtual 158, 3) := by decide +kernel
theorem dX3_giveBack_9 : decode cX3_giveBack 9 = .ok (.aload_n 0, 1) := by decide +kernel
theorem dX3_giveBack_10 : decode cX3_giveBack 10 = .ok (.getfield 26, 3) := by decide +kernel
theorem dX3_giveBack_13 : decode cX3_giveBack 13 = .ok (.invokevirtual 161, 3) := by decide +kernel
theorem dX3_giveBack_16 : decode cX3_giveBack 16 = .ok (.return_, 1) := by decide +kernel
set_option maxRecDepth 20000 in
theorem ggX3_holder_X1_owner : GoodIn wsX3_holder wsX1_owner := goodIn_r _ [6, 7, 8, 9, 17, 18, 19, 20] (by decide +kernel) (by decide +kernel)
set_option maxRecDepth 20000 in
theorem gX3_holder_X1_owner : GoodIn wsX3_holder (wsV RX3 150 RX1 yX1_owner wsX1_owner) := goodIn_app (goodIn_of _ (by decide +kernel)) ggX3_holder_X1_owner
theorem dX3_holder_0 : decode cX3_holder 0 = .ok (.aload_n 0, 1) := by decide +kernel
theorem dX3_holder_1 : decode cX3_holder 1 = .ok (.getfield 26, 3) := by decide +kernel
theorem dX3_holder_4 : decode cX3_holder 4 = .ok (.invokevirtual 150, 3) := by decide +kernel
theorem dX3_holder_7 : decode cX3_holder 7 = .ok (.ireturn, 1) := by decide +kernel
set_option maxRecDepth 20000 in
theorem ggX3_restart_X3_requireWorker : GoodIn wsX3_restart wsX3_requireWorker := goodIn_ca (goodIn_r _ [7, 8, 9] (by decide +kernel) (by decide +kernel)) (goodIn_sub (fun _ h => List.mem_cons_of_mem _ (List.mem_append_right _ h)) (by decide +kernel))
set_option maxRecDepth 20000 in
theorem gX3_restart_X3_requireWorker : GoodIn wsX3_restart (va_wsS RX3 142 yX3_requireWorker wsX3_requireWorker) := goodIn_app (goodIn_of _ (by decide +kernel)) ggX3_restart_X3_requireWorker
set_option maxRecDepth 20000 in
theorem ggX3_restart_X1_hasCrashed : GoodIn wsX3_restart wsX1_hasCrashed := goodIn_r _ [14, 15, 34, 35, 36, 37] (by decide +kernel) (by decide +kernel)
set_option maxRecDepth 20000 in
theorem gX3_restart_X1_hasCrashed : GoodIn wsX3_restart (wsV RX3 164 RX1 yX1_hasCrashed wsX1_hasCrashed) := goodIn_app (goodIn_of _ (by decide +kernel)) ggX3_restart_X1_hasCrashed
set_option maxRecDepth 20000 in
theorem ggX3_restart_X1_setCrashed : GoodIn wsX3_restart wsX1_setCrashed := goodIn_r _ [19, 15, 34, 35, 36, 37] (by decide +kernel) (by decide +kernel)
set_option maxRecDepth 20000 in
theorem gX3_restart_X1_setCrashed : GoodIn wsX3_restart (wsV RX3 169 RX1 yX1_setCrashed wsX1_setCrashed) := goodIn_app (goodIn_of _ (by decide +kernel)) ggX3_restart_X1_setCrashed
set_option maxRecDepth 20000 in
theorem ggX3_restart_X1_owner : GoodIn wsX3_restart wsX1_owner := goodIn_r _ [23, 24, 25, 26, 34, 35, 36, 37] (by decide +kernel) (by decide +kernel)
set_option maxRecDepth 20000 in
theorem gX3_restart_X1_owner : GoodIn wsX3_restart (wsV RX3 150 RX1 yX1_owner wsX1_owner) := goodIn_app (goodIn_of _ (by decide +kernel)) ggX3_restart_X1_owner
theorem dX3_restart_0 : decode cX3_restart 0 = .ok (.iload_n 1, 1) := by decide +kernel
theorem dX3_restart_1 : decode cX3_restart 1 = .ok (.invokestatic 142, 3) := by decide +kernel
theorem dX3_restart_4 : decode cX3_restart 4 = .ok (.aload_n 0, 1) := by decide +kernel
theorem dX3_restart_5 : decode cX3_restart 5 = .ok (.getfield 26, 3) := by decide +kernel
theorem dX3_restart_8 : decode cX3_restart 8 = .ok (.iload_n 1, 1) := by decide +kernel
theorem dX3_restart_9 : decode cX3_restart 9 = .ok (.invokevirtual 164, 3) := by decide +kernel
theorem dX3_restart_12 : decode cX3_restart 12 = .ok (.ifCond .ne 13, 3) := by decide +kernel
theorem dX3_restart_15 : decode cX3_restart 15 = .ok (.new 46, 3) := by decide +kernel
theorem dX3_restart_18 : decode cX3_restart 18 = .ok (.dup, 1) := by decide +kernel
theorem dX3_restart_19 : decode cX3_restart 19 = .ok (.ldc 167, 2) := by decide +kernel
theorem dX3_restart_21 : decode cX3_restart 21 = .ok (.invokespecial 50, 3) := by decide +kernel
theorem dX3_restart_24 : decode cX3_restart 24 = .ok (.athrow, 1) := by decide +kernel
theorem dX3_restart_25 : decode cX3_restart 25 = .ok (.aload_n 0, 1) := by decide +kernel
theorem dX3_restart_26 : decode cX3_restart 26 = .ok (.getfield 26, 3) := by decide +kernel
theorem dX3_restart_29 : decode cX3_restart 29 = .ok (.iload_n 1, 1) := by decide +kernel
theorem dX3_restart_30 : decode cX3_restart 30 = .ok (.iconst 0, 1) := by decide +kernel
theorem dX3_restart_31 : decode cX3_restart 31 = .ok (.invokevirtual 169, 3) := by decide +kernel
theorem dX3_restart_34 : decode cX3_restart 34 = .ok (.aload_n 0, 1) := by decide +kernel
theorem dX3_restart_35 : decode cX3_restart 35 = .ok (.getfield 26, 3) := by decide +kernel
theorem dX3_restart_38 : decode cX3_restart 38 = .ok (.invokevirtual 150, 3) := by decide +kernel
theorem dX3_restart_41 : decode cX3_restart 41 = .ok (.iload_n 1, 1) := by decide +kernel
theorem dX3_restart_42 : decode cX3_restart 42 = .ok (.if_icmp .ne 7, 3) := by decide +kernel
theorem dX3_restart_45 : decode cX3_restart 45 = .ok (.iconst 1, 1) := by decide +kernel
theorem dX3_restart_46 : decode cX3_restart 46 = .ok (.goto 4, 3) := by decide +kernel
theorem dX3_restart_49 : decode cX3_restart 49 = .ok (.iconst 0, 1) := by decide +kernel
theorem dX3_restart_50 : decode cX3_restart 50 = .ok (.ireturn, 1) := by decide +kernel
set_option maxRecDepth 20000 in
theorem ggX3_pass_X1_advance : GoodIn wsX3_pass wsX1_advance := goodIn_r _ [8, 9, 17, 18, 19, 20] (by decide +kernel) (by decide +kernel)
set_option maxRecDepth 20000 in
theorem gX3_pass_X1_advance : GoodIn wsX3_pass (wsV RX3 175 RX1 yX1_advance wsX1_advance) := goodIn_app (goodIn_of _ (by decide +kernel)) ggX3_pass_X1_advance
theorem dX3_pass_0 : decode cX3_pass 0 = .ok (.iload_n 1, 1) := by decide +kernel
theorem dX3_pass_1 : decode cX3_pass 1 = .ok (.iconst 1, 1) := by decide +kernel
theorem dX3_pass_2 : decode cX3_pass 2 = .ok (.if_icmp .lt 10, 3) := by decide +kernel
theorem dX3_pass_5 : decode cX3_pass 5 = .ok (.iload_n 1, 1) := by decide +kernel
theorem dX3_pass_6 : decode cX3_pass 6 = .ok (.sipush 1000, 3) := by decide +kernel
theorem dX3_pass_9 : decode cX3_pass 9 = .ok (.if_icmp .le 13, 3) := by decide +kernel
theorem dX3_pass_12 : decode cX3_pass 12 = .ok (.new 122, 3) := by decide +kernel
theorem dX3_pass_15 : decode cX3_pass 15 = .ok (.dup, 1) := by decide +kernel
theorem dX3_pass_16 : decode cX3_pass 16 = .ok (.ldc 173, 2) := by decide +kernel
theorem dX3_pass_18 : decode cX3_pass 18 = .ok (.invokespecial 126, 3) := by decide +kernel
theorem dX3_pass_21 : decode cX3_pass 21 = .ok (.athrow, 1) := by decide +kernel
theorem dX3_pass_22 : decode cX3_pass 22 = .ok (.aload_n 0, 1) := by decide +kernel
theorem dX3_pass_23 : decode cX3_pass 23 = .ok (.getfield 26, 3) := by decide +kernel
theorem dX3_pass_26 : decode cX3_pass 26 = .ok (.iload_n 1, 1) := by decide +kernel
theorem dX3_pass_27 : decode cX3_pass 27 = .ok (.invokevirtual 175, 3) := by decide +kernel
theorem dX3_pass_30 : decode cX3_pass 30 = .ok (.ireturn, 1) := by decide +kernel
set_option maxRecDepth 20000 in
theorem ggX3_begin_X3_requireWorker : GoodIn wsX3_begin wsX3_requireWorker := goodIn_ca (goodIn_r _ [10, 11, 12] (by decide +kernel) (by decide +kernel)) (goodIn_sub (fun _ h => List.mem_cons_of_mem _ (List.mem_append_right _ h)) (by decide +kernel))
set_option maxRecDepth 20000 in
theorem gX3_begin_X3_requireWorker : GoodIn wsX3_begin (va_wsS RX3 142 yX3_requireWorker wsX3_requireWorker) := goodIn_app (goodIn_of _ (by decide +kernel)) ggX3_begin_X3_requireWorker
set_option maxRecDepth 20000 in
theorem ggX3_begin_X3_requireAtWork : GoodIn wsX3_begin wsX3_requireAtWork := goodIn_ca (goodIn_r _ [16, 1, 2, 17, 18, 19, 20, 9, 21, 22, 23, 24, 25, 26, 27, 28, 29, 30, 31, 32, 33, 34, 70, 71, 72, 73, 74, 75, 76, 77, 78, 79, 80] (by decide +kernel) (by decide +kernel)) (goodIn_sub (fun _ h => List.mem_cons_of_mem _ (List.mem_append_left _ (List.mem_append_right _ h))) (by decide +kernel))
set_option maxRecDepth 20000 in
theorem gX3_begin_X3_requireAtWork : GoodIn wsX3_begin (wsV RX3 158 RX3 yX3_requireAtWork wsX3_requireAtWork) := goodIn_app (goodIn_of _ (by decide +kernel)) ggX3_begin_X3_requireAtWork
set_option maxRecDepth 20000 in
theorem ggX3_begin_X3_isActive : GoodIn wsX3_begin wsX3_isActive := goodIn_r _ [38, 5, 70, 71, 72, 73, 74, 75, 76] (by decide +kernel) (by decide +kernel)
set_option maxRecDepth 20000 in
theorem gX3_begin_X3_isActive : GoodIn wsX3_begin (wsV RX3 61 RX3 yX3_isActive wsX3_isActive) := goodIn_app (goodIn_of _ (by decide +kernel)) ggX3_begin_X3_isActive
set_option maxRecDepth 20000 in
theorem ggX3_begin_X0_firstDrifted : GoodIn wsX3_begin wsX0_firstDrifted := goodIn_r _ [43, 44, 45, 46, 42, 47, 48, 49, 50, 51, 52, 53, 54, 55, 56, 81, 82, 83, 84, 85] (by decide +kernel) (by decide +kernel)
set_option maxRecDepth 20000 in
theorem gX3_begin_X0_firstDrifted : GoodIn wsX3_begin (wsV RX3 84 RX0 yX0_firstDrifted wsX0_firstDrifted) := goodIn_app (goodIn_of _ (by decide +kernel)) ggX3_begin_X0_firstDrifted
set_option maxRecDepth 20000 in
theorem ggX3_begin_X0_count : GoodIn wsX3_begin wsX0_count := goodIn_r _ [60, 61, 81, 82, 83, 84, 85] (by decide +kernel) (by decide +kernel)
set_option maxRecDepth 20000 in
theorem gX3_begin_X0_count : GoodIn wsX3_begin (wsV RX3 78 RX0 yX0_count wsX0_count) := goodIn_app (goodIn_of _ (by decide +kernel)) ggX3_begin_X0_count
set_option maxRecDepth 20000 in
theorem ggX3_begin_X3_activeNumber : GoodIn wsX3_begin wsX3_activeNumber := goodIn_r _ [65, 4, 70, 71, 72, 73, 74, 75, 76] (by decide +kernel) (by decide +kernel)
set_option maxRecDepth 20000 in
theorem gX3_begin_X3_activeNumber : GoodIn wsX3_begin (wsV RX3 64 RX3 yX3_activeNumber wsX3_activeNumber) := goodIn_app (goodIn_of _ (by decide +kernel)) ggX3_begin_X3_activeNumber
set_option maxRecDepth 20000 in
theorem ggX3_begin_X0_recordChecksum : GoodIn wsX3_begin wsX0_recordChecksum := goodIn_r _ [69, 48, 49, 50, 51, 42, 52, 53, 54, 55, 56, 81, 82, 83, 84, 85] (by decide +kernel) (by decide +kernel)
set_option maxRecDepth 20000 in
theorem gX3_begin_X0_recordChecksum : GoodIn wsX3_begin (wsV RX3 187 RX0 yX0_recordChecksum wsX0_recordChecksum) := goodIn_app (goodIn_of _ (by decide +kernel)) ggX3_begin_X0_recordChecksum
theorem dX3_begin_0 : decode cX3_begin 0 = .ok (.iload_n 1, 1) := by decide +kernel
theorem dX3_begin_1 : decode cX3_begin 1 = .ok (.invokestatic 142, 3) := by decide +kernel
theorem dX3_begin_4 : decode cX3_begin 4 = .ok (.aload_n 0, 1) := by decide +kernel
theorem dX3_begin_5 : decode cX3_begin 5 = .ok (.iload_n 1, 1) := by decide +kernel
theorem dX3_begin_6 : decode cX3_begin 6 = .ok (.invokevirtual 158, 3) := by decide +kernel
theorem dX3_begin_9 : decode cX3_begin 9 = .ok (.aload_n 0, 1) := by decide +kernel
theorem dX3_begin_10 : decode cX3_begin 10 = .ok (.invokevirtual 61, 3) := by decide +kernel
theorem dX3_begin_13 : decode cX3_begin 13 = .ok (.ifCond .eq 13, 3) := by decide +kernel
theorem dX3_begin_16 : decode cX3_begin 16 = .ok (.new 46, 3) := by decide +kernel
theorem dX3_begin_19 : decode cX3_begin 19 = .ok (.dup, 1) := by decide +kernel
theorem dX3_begin_20 : decode cX3_begin 20 = .ok (.ldc 178, 2) := by decide +kernel
theorem dX3_begin_22 : decode cX3_begin 22 = .ok (.invokespecial 50, 3) := by decide +kernel
theorem dX3_begin_25 : decode cX3_begin 25 = .ok (.athrow, 1) := by decide +kernel
theorem dX3_begin_26 : decode cX3_begin 26 = .ok (.aload_n 0, 1) := by decide +kernel
theorem dX3_begin_27 : decode cX3_begin 27 = .ok (.getfield 10, 3) := by decide +kernel
theorem dX3_begin_30 : decode cX3_begin 30 = .ok (.aload_n 0, 1) := by decide +kernel
theorem dX3_begin_31 : decode cX3_begin 31 = .ok (.getfield 81, 3) := by decide +kernel
theorem dX3_begin_34 : decode cX3_begin 34 = .ok (.invokevirtual 84, 3) := by decide +kernel
theorem dX3_begin_37 : decode cX3_begin 37 = .ok (.ifCond .eq 13, 3) := by decide +kernel
theorem dX3_begin_40 : decode cX3_begin 40 = .ok (.new 46, 3) := by decide +kernel
theorem dX3_begin_43 : decode cX3_begin 43 = .ok (.dup, 1) := by decide +kernel
theorem dX3_begin_44 : decode cX3_begin 44 = .ok (.ldc 180, 2) := by decide +kernel
theorem dX3_begin_46 : decode cX3_begin 46 = .ok (.invokespecial 50, 3) := by decide +kernel
theorem dX3_begin_49 : decode cX3_begin 49 = .ok (.athrow, 1) := by decide +kernel
theorem dX3_begin_50 : decode cX3_begin 50 = .ok (.aload_n 0, 1) := by decide +kernel
theorem dX3_begin_51 : decode cX3_begin 51 = .ok (.getfield 81, 3) := by decide +kernel
theorem dX3_begin_54 : decode cX3_begin 54 = .ok (.aload_n 0, 1) := by decide +kernel
theorem dX3_begin_55 : decode cX3_begin 55 = .ok (.getfield 10, 3) := by decide +kernel
theorem dX3_begin_58 : decode cX3_begin 58 = .ok (.invokevirtual 78, 3) := by decide +kernel
theorem dX3_begin_61 : decode cX3_begin 61 = .ok (.if_icmp .lt 13, 3) := by decide +kernel
theorem dX3_begin_64 : decode cX3_begin 64 = .ok (.new 46, 3) := by decide +kernel
theorem dX3_begin_67 : decode cX3_begin 67 = .ok (.dup, 1) := by decide +kernel
theorem dX3_begin_68 : decode cX3_begin 68 = .ok (.ldc 182, 2) := by decide +kernel
theorem dX3_begin_70 : decode cX3_begin 70 = .ok (.invokespecial 50, 3) := by decide +kernel
theorem dX3_begin_73 : decode cX3_begin 73 = .ok (.athrow, 1) := by decide +kernel
theorem dX3_begin_74 : decode cX3_begin 74 = .ok (.aload_n 0, 1) := by decide +kernel
theorem dX3_begin_75 : decode cX3_begin 75 = .ok (.iconst 1, 1) := by decide +kernel
theorem dX3_begin_76 : decode cX3_begin 76 = .ok (.putfield 34, 3) := by decide +kernel
theorem dX3_begin_79 : decode cX3_begin 79 = .ok (.aload_n 0, 1) := by decide +kernel
theorem dX3_begin_80 : decode cX3_begin 80 = .ok (.iconst 0, 1) := by decide +kernel
theorem dX3_begin_81 : decode cX3_begin 81 = .ok (.putfield 184, 3) := by decide +kernel
theorem dX3_begin_84 : decode cX3_begin 84 = .ok (.aload_n 0, 1) := by decide +kernel
theorem dX3_begin_85 : decode cX3_begin 85 = .ok (.getfield 10, 3) := by decide +kernel
theorem dX3_begin_88 : decode cX3_begin 88 = .ok (.aload_n 0, 1) := by decide +kernel
theorem dX3_begin_89 : decode cX3_begin 89 = .ok (.invokevirtual 64, 3) := by decide +kernel
theorem dX3_begin_92 : decode cX3_begin 92 = .ok (.invokevirtual 187, 3) := by decide +kernel
theorem dX3_begin_95 : decode cX3_begin 95 = .ok (.aload_n 0, 1) := by decide +kernel
theorem dX3_begin_96 : decode cX3_begin 96 = .ok (.invokevirtual 64, 3) := by decide +kernel
theorem dX3_begin_99 : decode cX3_begin 99 = .ok (.ireturn, 1) := by decide +kernel
set_option maxRecDepth 20000 in
theorem ggX3_undo_X3_requireWorker : GoodIn wsX3_undo wsX3_requireWorker := goodIn_ca (goodIn_r _ [9, 10, 11] (by decide +kernel) (by decide +kernel)) (goodIn_sub (fun _ h => List.mem_cons_of_mem _ (List.mem_append_right _ h)) (by decide +kernel))
set_option maxRecDepth 20000 in
theorem gX3_undo_X3_requireWorker : GoodIn wsX3_undo (va_wsS RX3 142 yX3_requireWorker wsX3_requireWorker) := goodIn_app (goodIn_of _ (by decide +kernel)) ggX3_undo_X3_requireWorker
set_option maxRecDepth 20000 in
theorem ggX3_undo_X3_requireAtWork : GoodIn wsX3_undo wsX3_requireAtWork := goodIn_ca (goodIn_r _ [15, 1, 2, 16, 17, 18, 19, 8, 20, 21, 22, 23, 24, 25, 26, 27, 28, 29, 30, 31, 32, 33, 57, 58, 59, 60, 61, 62, 63, 64, 65, 66, 67] (by decide +kernel) (by decide +kernel)) (goodIn_sub (fun _ h => List.mem_cons_of_mem _ (List.mem_append_left _ (List.mem_append_right _ h))) (by decide +kernel))
set_option maxRecDepth 20000 in
theorem gX3_undo_X3_requireAtWork : GoodIn wsX3_undo (wsV RX3 158 RX3 yX3_requireAtWork wsX3_requireAtWork) := goodIn_app (goodIn_of _ (by decide +kernel)) ggX3_undo_X3_requireAtWork
set_option maxRecDepth 20000 in
theorem ggX3_undo_X3_requireUndoableDone : GoodIn wsX3_undo wsX3_requireUndoableDone := goodIn_ca (goodIn_r _ [37, 1, 2, 4, 38, 39, 40, 41, 42, 43, 44, 45, 46, 47, 48, 49, 50, 51, 52, 57, 58, 59, 60, 61, 62, 63, 68, 69, 70, 71, 72] (by decide +kernel) (by decide +kernel)) (goodIn_sub (fun _ h => List.mem_cons_of_mem _ (List.mem_append_left _ (List.mem_append_right _ h))) (by decide +kernel))
set_option maxRecDepth 20000 in
theorem gX3_undo_X3_requireUndoableDone : GoodIn wsX3_undo (wsV RX3 192 RX3 yX3_requireUndoableDone wsX3_requireUndoableDone) := goodIn_app (goodIn_of _ (by decide +kernel)) ggX3_undo_X3_requireUndoableDone
set_option maxRecDepth 20000 in
theorem ggX3_undo_X3_activeNumber : GoodIn wsX3_undo wsX3_activeNumber := goodIn_r _ [56, 4, 57, 58, 59, 60, 61, 62, 63] (by decide +kernel) (by decide +kernel)
set_option maxRecDepth 20000 in
theorem gX3_undo_X3_activeNumber : GoodIn wsX3_undo (wsV RX3 64 RX3 yX3_activeNumber wsX3_activeNumber) := goodIn_app (goodIn_of _ (by decide +kernel)) ggX3_undo_X3_activeNumber
theorem dX3_undo_0 : decode cX3_undo 0 = .ok (.iload_n 1, 1) := by decide +kernel
theorem dX3_undo_1 : decode cX3_undo 1 = .ok (.invokestatic 142, 3) := by decide +kernel
theorem dX3_undo_4 : decode cX3_undo 4 = .ok (.aload_n 0, 1) := by decide +kernel
theorem dX3_undo_5 : decode cX3_undo 5 = .ok (.iload_n 1, 1) := by decide +kernel
theorem dX3_undo_6 : decode cX3_undo 6 = .ok (.invokevirtual 158, 3) := by decide +kernel
theorem dX3_undo_9 : decode cX3_undo 9 = .ok (.aload_n 0, 1) := by decide +kernel
theorem dX3_undo_10 : decode cX3_undo 10 = .ok (.getfield 34, 3) := by decide +kernel
theorem dX3_undo_13 : decode cX3_undo 13 = .ok (.iconst 3, 1) := by decide +kernel
theorem dX3_undo_14 : decode cX3_undo 14 = .ok (.if_icmp .ne 13, 3) := by decide +kernel
theorem dX3_undo_17 : decode cX3_undo 17 = .ok (.new 46, 3) := by decide +kernel
theorem dX3_undo_20 : decode cX3_undo 20 = .ok (.dup, 1) := by decide +kernel
theorem dX3_undo_21 : decode cX3_undo 21 = .ok (.ldc 190, 2) := by decide +kernel
theorem dX3_undo_23 : decode cX3_undo 23 = .ok (.invokespecial 50, 3) := by decide +kernel
theorem dX3_undo_26 : decode cX3_undo 26 = .ok (.athrow, 1) := by decide +kernel
theorem dX3_undo_27 : decode cX3_undo 27 = .ok (.aload_n 0, 1) := by decide +kernel
theorem dX3_undo_28 : decode cX3_undo 28 = .ok (.getfield 34, 3) := by decide +kernel
theorem dX3_undo_31 : decode cX3_undo 31 = .ok (.iconst 1, 1) := by decide +kernel
theorem dX3_undo_32 : decode cX3_undo 32 = .ok (.if_icmp .eq 17, 3) := by decide +kernel
theorem dX3_undo_35 : decode cX3_undo 35 = .ok (.aload_n 0, 1) := by decide +kernel
theorem dX3_undo_36 : decode cX3_undo 36 = .ok (.invokevirtual 192, 3) := by decide +kernel
theorem dX3_undo_39 : decode cX3_undo 39 = .ok (.aload_n 0, 1) := by decide +kernel
theorem dX3_undo_40 : decode cX3_undo 40 = .ok (.dup, 1) := by decide +kernel
theorem dX3_undo_41 : decode cX3_undo 41 = .ok (.getfield 81, 3) := by decide +kernel
theorem dX3_undo_44 : decode cX3_undo 44 = .ok (.iconst 1, 1) := by decide +kernel
theorem dX3_undo_45 : decode cX3_undo 45 = .ok (.isub, 1) := by decide +kernel
theorem dX3_undo_46 : decode cX3_undo 46 = .ok (.putfield 81, 3) := by decide +kernel
theorem dX3_undo_49 : decode cX3_undo 49 = .ok (.aload_n 0, 1) := by decide +kernel
theorem dX3_undo_50 : decode cX3_undo 50 = .ok (.iconst 3, 1) := by decide +kernel
theorem dX3_undo_51 : decode cX3_undo 51 = .ok (.putfield 34, 3) := by decide +kernel
theorem dX3_undo_54 : decode cX3_undo 54 = .ok (.aload_n 0, 1) := by decide +kernel
theorem dX3_undo_55 : decode cX3_undo 55 = .ok (.bipush 40, 2) := by decide +kernel
theorem dX3_undo_57 : decode cX3_undo 57 = .ok (.putfield 184, 3) := by decide +kernel
theorem dX3_undo_60 : decode cX3_undo 60 = .ok (.aload_n 0, 1) := by decide +kernel
theorem dX3_undo_61 : decode cX3_undo 61 = .ok (.invokevirtual 64, 3) := by decide +kernel
theorem dX3_undo_64 : decode cX3_undo 64 = .ok (.ireturn, 1) := by decide +kernel
set_option maxRecDepth 20000 in
theorem ggX3_step_X3_requireWorker : GoodIn wsX3_step wsX3_requireWorker := goodIn_ca (goodIn_r _ [10, 1, 2] (by decide +kernel) (by decide +kernel)) (goodIn_sub (fun _ h => List.mem_cons_of_mem _ (List.mem_append_left _ (List.mem_append_right _ h))) (by decide +kernel))
set_option maxRecDepth 20000 in
theorem gX3_step_X3_requireWorker : GoodIn wsX3_step (va_wsS RX3 142 yX3_requireWorker wsX3_requireWorker) := goodIn_app (goodIn_of _ (by decide +kernel)) ggX3_step_X3_requireWorker
set_option maxRecDepth 20000 in
theorem ggX3_step_X3_requireAtWork : GoodIn wsX3_step wsX3_requireAtWork := goodIn_ca (goodIn_r _ [14, 15, 16, 17, 18, 19, 20, 9, 21, 22, 23, 24, 25, 26, 27, 28, 29, 30, 31, 32, 33, 34, 142, 143, 144, 145, 146, 147, 148, 149, 150, 151, 152] (by decide +kernel) (by decide +kernel)) (goodIn_sub (fun _ h => List.mem_cons_of_mem _ (List.mem_append_right _ h)) (by decide +kernel))
set_option maxRecDepth 20000 in
theorem gX3_step_X3_requireAtWork : GoodIn wsX3_step (wsV RX3 158 RX3 yX3_requireAtWork wsX3_requireAtWork) := goodIn_app (goodIn_of _ (by decide +kernel)) ggX3_step_X3_requireAtWork
set_option maxRecDepth 20000 in
theorem ggX3_step_X3_requireActive : GoodIn wsX3_step wsX3_requireActive := goodIn_ca (goodIn_r _ [38, 15, 16, 39, 40, 41, 9, 42, 43, 142, 143, 144, 145, 146, 147, 148] (by decide +kernel) (by decide +kernel)) (goodIn_sub (fun _ h => List.mem_cons_of_mem _ (List.mem_append_right _ h)) (by decide +kernel))
set_option maxRecDepth 20000 in
theorem gX3_step_X3_requireActive : GoodIn wsX3_step (wsV RX3 199 RX3 yX3_requireActive wsX3_requireActive) := goodIn_app (goodIn_of _ (by decide +kernel)) ggX3_step_X3_requireActive
set_option maxRecDepth 20000 in
theorem ggX3_step_X3_idsLeft : GoodIn wsX3_step wsX3_idsLeft := goodIn_r _ [47, 43, 48, 142, 143, 144, 145, 146, 147, 148] (by decide +kernel) (by decide +kernel)
set_option maxRecDepth 20000 in
theorem gX3_step_X3_idsLeft : GoodIn wsX3_step (wsV RX3 202 RX3 yX3_idsLeft wsX3_idsLeft) := goodIn_app (goodIn_of _ (by decide +kernel)) ggX3_step_X3_idsLeft
set_option maxRecDepth 20000 in
theorem ggX3_step_X3_goThrough : GoodIn wsX3_step wsX3_goThrough := goodIn_r _ [52, 48, 17, 53, 54, 55, 9, 56, 43, 57, 58, 59, 60, 61, 62, 63, 64, 65, 66, 67, 68, 69, 70, 71, 72, 73, 74, 75, 76, 77, 78, 79, 80, 81, 82, 83, 84, 85, 86, 87, 88, 89, 90, 91, 92, 93, 94, 95, 96, 97, 98, 99, 100, 101, 102, 103, 104, 105, 106, 107, 108, 109, 110, 111, 112, 113, 114, 115, 116, 117, 118, 119, 120, 121, 122, 123, 124, 125, 126, 127, 128, 129, 130, 131, 132, 133, 134, 135, 136, 25, 137, 27, 138, 139, 140, 141, 44, 45, 46, 47, 142, 143, 144, 145, 146, 147, 148, 153, 154, 155, 156, 157, 158, 159, 149, 150, 151, 152] (by decide +kernel) (by decide +kernel)
set_option maxRecDepth 20000 in
theorem gX3_step_X3_goThrough : GoodIn wsX3_step (wsV RX3 210 RX3 yX3_goThrough wsX3_goThrough) := goodIn_app (goodIn_of _ (by decide +kernel)) ggX3_step_X3_goThrough
theorem dX3_step_0 : decode cX3_step 0 = .ok (.iload_n 1, 1) := by decide +kernel
theorem dX3_step_1 : decode cX3_step 1 = .ok (.invokestatic 142, 3) := by decide +kernel
theorem dX3_step_4 : decode cX3_step 4 = .ok (.iload_n 2, 1) := by decide +kernel
theorem dX3_step_5 : decode cX3_step 5 = .ok (.iconst 1, 1) := by decide +kernel
theorem dX3_step_6 : decode cX3_step 6 = .ok (.if_icmp .lt 9, 3) := by decide +kernel
theorem dX3_step_9 : decode cX3_step 9 = .ok (.iload_n 2, 1) := by decide +kernel
theorem dX3_step_10 : decode cX3_step 10 = .ok (.bipush 40, 2) := by decide +kernel
theorem dX3_step_12 : decode cX3_step 12 = .ok (.if_icmp .le 13, 3) := by decide +kernel
theorem dX3_step_15 : decode cX3_step 15 = .ok (.new 122, 3) := by decide +kernel
theorem dX3_step_18 : decode cX3_step 18 = .ok (.dup, 1) := by decide +kernel
theorem dX3_step_19 : decode cX3_step 19 = .ok (.ldc 195, 2) := by decide +kernel
theorem dX3_step_21 : decode cX3_step 21 = .ok (.invokespecial 126, 3) := by decide +kernel
theorem dX3_step_24 : decode cX3_step 24 = .ok (.athrow, 1) := by decide +kernel
theorem dX3_step_25 : decode cX3_step 25 = .ok (.iload_n 3, 1) := by decide +kernel
theorem dX3_step_26 : decode cX3_step 26 = .ok (.ifCond .lt 9, 3) := by decide +kernel
theorem dX3_step_29 : decode cX3_step 29 = .ok (.iload_n 3, 1) := by decide +kernel
theorem dX3_step_30 : decode cX3_step 30 = .ok (.bipush 40, 2) := by decide +kernel
theorem dX3_step_32 : decode cX3_step 32 = .ok (.if_icmp .le 13, 3) := by decide +kernel
theorem dX3_step_35 : decode cX3_step 35 = .ok (.new 122, 3) := by decide +kernel
theorem dX3_step_38 : decode cX3_step 38 = .ok (.dup, 1) := by decide +kernel
theorem dX3_step_39 : decode cX3_step 39 = .ok (.ldc 197, 2) := by decide +kernel
theorem dX3_step_41 : decode cX3_step 41 = .ok (.invokespecial 126, 3) := by decide +kernel
theorem dX3_step_44 : decode cX3_step 44 = .ok (.athrow, 1) := by decide +kernel
theorem dX3_step_45 : decode cX3_step 45 = .ok (.aload_n 0, 1) := by decide +kernel
theorem dX3_step_46 : decode cX3_step 46 = .ok (.iload_n 1, 1) := by decide +kernel
theorem dX3_step_47 : decode cX3_step 47 = .ok (.invokevirtual 158, 3) := by decide +kernel
theorem dX3_step_50 : decode cX3_step 50 = .ok (.aload_n 0, 1) := by decide +kernel
theorem dX3_step_51 : decode cX3_step 51 = .ok (.invokevirtual 199, 3) := by decide +kernel
theorem dX3_step_54 : decode cX3_step 54 = .ok (.aload_n 0, 1) := by decide +kernel
theorem dX3_step_55 : decode cX3_step 55 = .ok (.iload_n 2, 1) := by decide +kernel
theorem dX3_step_56 : decode cX3_step 56 = .ok (.aload_n 0, 1) := by decide +kernel
theorem dX3_step_57 : decode cX3_step 57 = .ok (.invokevirtual 202, 3) := by decide +kernel
theorem dX3_step_60 : decode cX3_step 60 = .ok (.invokestatic 205, 3) := by decide +kernel
theorem dX3_step_63 : decode cX3_step 63 = .ok (.iload_n 1, 1) := by decide +kernel
theorem dX3_step_64 : decode cX3_step 64 = .ok (.iload_n 3, 1) := by decide +kernel
theorem dX3_step_65 : decode cX3_step 65 = .ok (.invokevirtual 210, 3) := by decide +kernel
theorem dX3_step_68 : decode cX3_step 68 = .ok (.ireturn, 1) := by decide +kernel
set_option maxRecDepth 20000 in
theorem ggX3_cursor_X3_requireActive : GoodIn wsX3_cursor wsX3_requireActive := goodIn_ca (goodIn_r _ [6, 7, 8, 9, 10, 11, 5, 12, 13, 14, 15, 16, 17, 18, 19, 20] (by decide +kernel) (by decide +kernel)) (goodIn_sub (fun _ h => List.mem_cons_of_mem _ (List.mem_append_right _ h)) (by decide +kernel))
set_option maxRecDepth 20000 in
theorem gX3_cursor_X3_requireActive : GoodIn wsX3_cursor (wsV RX3 199 RX3 yX3_requireActive wsX3_requireActive) := goodIn_app (goodIn_of _ (by decide +kernel)) ggX3_cursor_X3_requireActive
theorem dX3_cursor_0 : decode cX3_cursor 0 = .ok (.aload_n 0, 1) := by decide +kernel
theorem dX3_cursor_1 : decode cX3_cursor 1 = .ok (.invokevirtual 199, 3) := by decide +kernel
theorem dX3_cursor_4 : decode cX3_cursor 4 = .ok (.aload_n 0, 1) := by decide +kernel
theorem dX3_cursor_5 : decode cX3_cursor 5 = .ok (.getfield 184, 3) := by decide +kernel
theorem dX3_cursor_8 : decode cX3_cursor 8 = .ok (.ireturn, 1) := by decide +kernel
theorem dX3_isActive_0 : decode cX3_isActive 0 = .ok (.aload_n 0, 1) := by decide +kernel
theorem dX3_isActive_1 : decode cX3_isActive 1 = .ok (.getfield 34, 3) := by decide +kernel
theorem dX3_isActive_4 : decode cX3_isActive 4 = .ok (.ifCond .eq 7, 3) := by decide +kernel
theorem dX3_isActive_7 : decode cX3_isActive 7 = .ok (.iconst 1, 1) := by decide +kernel
theorem dX3_isActive_8 : decode cX3_isActive 8 = .ok (.goto 4, 3) := by decide +kernel
theorem dX3_isActive_11 : decode cX3_isActive 11 = .ok (.iconst 0, 1) := by decide +kernel
theorem dX3_isActive_12 : decode cX3_isActive 12 = .ok (.ireturn, 1) := by decide +kernel
theorem dX3_activeNumber_0 : decode cX3_activeNumber 0 = .ok (.aload_n 0, 1) := by decide +kernel
theorem dX3_activeNumber_1 : decode cX3_activeNumber 1 = .ok (.getfield 81, 3) := by decide +kernel
theorem dX3_activeNumber_4 : decode cX3_activeNumber 4 = .ok (.iconst 1, 1) := by decide +kernel
theorem dX3_activeNumber_5 : decode cX3_activeNumber 5 = .ok (.iadd, 1) := by decide +kernel
theorem dX3_activeNumber_6 : decode cX3_activeNumber 6 = .ok (.ireturn, 1) := by decide +kernel
set_option maxRecDepth 20000 in
theorem ggX3_versionForNewRow_X3_isActive : GoodIn wsX3_versionForNewRow wsX3_isActive := goodIn_r _ [7, 8, 13, 14, 15, 16, 17, 18, 19] (by decide +kernel) (by decide +kernel)
set_option maxRecDepth 20000 in
theorem gX3_versionForNewRow_X3_isActive : GoodIn wsX3_versionForNewRow (wsV RX3 61 RX3 yX3_isActive wsX3_isActive) := goodIn_app (goodIn_of _ (by decide +kernel)) ggX3_versionForNewRow_X3_isActive
set_option maxRecDepth 20000 in
theorem ggX3_versionForNewRow_X3_activeNumber : GoodIn wsX3_versionForNewRow wsX3_activeNumber := goodIn_r _ [12, 2, 13, 14, 15, 16, 17, 18, 19] (by decide +kernel) (by decide +kernel)
set_option maxRecDepth 20000 in
theorem gX3_versionForNewRow_X3_activeNumber : GoodIn wsX3_versionForNewRow (wsV RX3 64 RX3 yX3_activeNumber wsX3_activeNumber) := goodIn_app (goodIn_of _ (by decide +kernel)) ggX3_versionForNewRow_X3_activeNumber
theorem dX3_versionForNewRow_0 : decode cX3_versionForNewRow 0 = .ok (.aload_n 0, 1) := by decide +kernel
theorem dX3_versionForNewRow_1 : decode cX3_versionForNewRow 1 = .ok (.invokevirtual 61, 3) := by decide +kernel
theorem dX3_versionForNewRow_4 : decode cX3_versionForNewRow 4 = .ok (.ifCond .eq 18, 3) := by decide +kernel
theorem dX3_versionForNewRow_7 : decode cX3_versionForNewRow 7 = .ok (.iload_n 1, 1) := by decide +kernel
theorem dX3_versionForNewRow_8 : decode cX3_versionForNewRow 8 = .ok (.aload_n 0, 1) := by decide +kernel
theorem dX3_versionForNewRow_9 : decode cX3_versionForNewRow 9 = .ok (.getfield 184, 3) := by decide +kernel
theorem dX3_versionForNewRow_12 : decode cX3_versionForNewRow 12 = .ok (.if_icmp .ge 10, 3) := by decide +kernel
theorem dX3_versionForNewRow_15 : decode cX3_versionForNewRow 15 = .ok (.aload_n 0, 1) := by decide +kernel
theorem dX3_versionForNewRow_16 : decode cX3_versionForNewRow 16 = .ok (.invokevirtual 64, 3) := by decide +kernel
theorem dX3_versionForNewRow_19 : decode cX3_versionForNewRow 19 = .ok (.goto 7, 3) := by decide +kernel
theorem dX3_versionForNewRow_22 : decode cX3_versionForNewRow 22 = .ok (.aload_n 0, 1) := by decide +kernel
theorem dX3_versionForNewRow_23 : decode cX3_versionForNewRow 23 = .ok (.getfield 81, 3) := by decide +kernel
theorem dX3_versionForNewRow_26 : decode cX3_versionForNewRow 26 = .ok (.ireturn, 1) := by decide +kernel
theorem dX3_idsLeft_0 : decode cX3_idsLeft 0 = .ok (.aload_n 0, 1) := by decide +kernel
theorem dX3_idsLeft_1 : decode cX3_idsLeft 1 = .ok (.getfield 34, 3) := by decide +kernel
theorem dX3_idsLeft_4 : decode cX3_idsLeft 4 = .ok (.iconst 1, 1) := by decide +kernel
theorem dX3_idsLeft_5 : decode cX3_idsLeft 5 = .ok (.if_icmp .ne 13, 3) := by decide +kernel
theorem dX3_idsLeft_8 : decode cX3_idsLeft 8 = .ok (.bipush 40, 2) := by decide +kernel
theorem dX3_idsLeft_10 : decode cX3_idsLeft 10 = .ok (.aload_n 0, 1) := by decide +kernel
theorem dX3_idsLeft_11 : decode cX3_idsLeft 11 = .ok (.getfield 184, 3) := by decide +kernel
theorem dX3_idsLeft_14 : decode cX3_idsLeft 14 = .ok (.isub, 1) := by decide +kernel
theorem dX3_idsLeft_15 : decode cX3_idsLeft 15 = .ok (.goto 7, 3) := by decide +kernel
theorem dX3_idsLeft_18 : decode cX3_idsLeft 18 = .ok (.aload_n 0, 1) := by decide +kernel
theorem dX3_idsLeft_19 : decode cX3_idsLeft 19 = .ok (.getfield 184, 3) := by decide +kernel
theorem dX3_idsLeft_22 : decode cX3_idsLeft 22 = .ok (.ireturn, 1) := by decide +kernel
theorem dX3_positionBehind_0 : decode cX3_positionBehind 0 = .ok (.aload_n 0, 1) := by decide +kernel
theorem dX3_positionBehind_1 : decode cX3_positionBehind 1 = .ok (.getfield 34, 3) := by decide +kernel
theorem dX3_positionBehind_4 : decode cX3_positionBehind 4 = .ok (.iconst 1, 1) := by decide +kernel
theorem dX3_positionBehind_5 : decode cX3_positionBehind 5 = .ok (.if_icmp .ne 12, 3) := by decide +kernel
theorem dX3_positionBehind_8 : decode cX3_positionBehind 8 = .ok (.aload_n 0, 1) := by decide +kernel
theorem dX3_positionBehind_9 : decode cX3_positionBehind 9 = .ok (.getfield 184, 3) := by decide +kernel
theorem dX3_positionBehind_12 : decode cX3_positionBehind 12 = .ok (.iload_n 1, 1) := by decide +kernel
theorem dX3_positionBehind_13 : decode cX3_positionBehind 13 = .ok (.iadd, 1) := by decide +kernel
theorem dX3_positionBehind_14 : decode cX3_positionBehind 14 = .ok (.goto 9, 3) := by decide +kernel
theorem dX3_positionBehind_17 : decode cX3_positionBehind 17 = .ok (.aload_n 0, 1) := by decide +kernel
theorem dX3_positionBehind_18 : decode cX3_positionBehind 18 = .ok (.getfield 184, 3) := by decide +kernel
theorem dX3_positionBehind_21 : decode cX3_positionBehind 21 = .ok (.iload_n 1, 1) := by decide +kernel
theorem dX3_positionBehind_22 : decode cX3_positionBehind 22 = .ok (.isub, 1) := by decide +kernel
theorem dX3_positionBehind_23 : decode cX3_positionBehind 23 = .ok (.ireturn, 1) := by decide +kernel
theorem dX3_idBehind_0 : decode cX3_idBehind 0 = .ok (.aload_n 0, 1) := by decide +kernel
theorem dX3_idBehind_1 : decode cX3_idBehind 1 = .ok (.getfield 34, 3) := by decide +kernel
theorem dX3_idBehind_4 : decode cX3_idBehind 4 = .ok (.iconst 1, 1) := by decide +kernel
theorem dX3_idBehind_5 : decode cX3_idBehind 5 = .ok (.if_icmp .ne 12, 3) := by decide +kernel
theorem dX3_idBehind_8 : decode cX3_idBehind 8 = .ok (.aload_n 0, 1) := by decide +kernel
theorem dX3_idBehind_9 : decode cX3_idBehind 9 = .ok (.getfield 184, 3) := by decide +kernel
theorem dX3_idBehind_12 : decode cX3_idBehind 12 = .ok (.iload_n 1, 1) := by decide +kernel
theorem dX3_idBehind_13 : decode cX3_idBehind 13 = .ok (.iadd, 1) := by decide +kernel
theorem dX3_idBehind_14 : decode cX3_idBehind 14 = .ok (.goto 11, 3) := by decide +kernel
theorem dX3_idBehind_17 : decode cX3_idBehind 17 = .ok (.aload_n 0, 1) := by decide +kernel
theorem dX3_idBehind_18 : decode cX3_idBehind 18 = .ok (.getfield 184, 3) := by decide +kernel
theorem dX3_idBehind_21 : decode cX3_idBehind 21 = .ok (.iconst 1, 1) := by decide +kernel
theorem dX3_idBehind_22 : decode cX3_idBehind 22 = .ok (.isub, 1) := by decide +kernel
theorem dX3_idBehind_23 : decode cX3_idBehind 23 = .ok (.iload_n 1, 1) := by decide +kernel
theorem dX3_idBehind_24 : decode cX3_idBehind 24 = .ok (.isub, 1) := by decide +kernel
theorem dX3_idBehind_25 : decode cX3_idBehind 25 = .ok (.ireturn, 1) := by decide +kernel
set_option maxRecDepth 20000 in
theorem ggX3_goThrough_X3_idBehind : GoodIn wsX3_goThrough wsX3_idBehind := goodIn_r _ [7, 8, 1, 100, 101, 102, 103, 104, 105, 106] (by decide +kernel) (by decide +kernel)
set_option maxRecDepth 20000 in
theorem gX3_goThrough_X3_idBehind : GoodIn wsX3_goThrough (wsV RX3 221 RX3 yX3_idBehind wsX3_idBehind) := goodIn_app (goodIn_of _ (by decide +kernel)) ggX3_goThrough_X3_idBehind
set_option maxRecDepth 20000 in
theorem ggX3_goThrough_X3_isToBeChanged : GoodIn wsX3_goThrough wsX3_isToBeChanged := goodIn_r _ [12, 13, 8, 14, 15, 16, 17, 18, 19, 20, 21, 22, 23, 24, 25, 26, 6, 27, 28, 100, 101, 102, 103, 104, 105, 106, 107, 108] (by decide +kernel) (by decide +kernel)
set_option maxRecDepth 20000 in
theorem gX3_goThrough_X3_isToBeChanged : GoodIn wsX3_goThrough (wsV RX3 224 RX3 yX3_isToBeChanged wsX3_isToBeChanged) := goodIn_app (goodIn_of _ (by decide +kernel)) ggX3_goThrough_X3_isToBeChanged
set_option maxRecDepth 20000 in
theorem ggX3_goThrough_X3_changeRow : GoodIn wsX3_goThrough wsX3_changeRow := goodIn_r _ [32, 13, 8, 33, 20, 21, 22, 17, 23, 19, 34, 35, 36, 37, 38, 39, 40, 41, 42, 43, 44, 45, 6, 46, 47, 48, 49, 50, 51, 52, 53, 54, 55, 56, 57, 58, 59, 60, 61, 62, 63, 64, 65, 66, 67, 68, 69, 70, 71, 72, 73, 74, 75, 76, 77, 78, 79, 80, 81, 100, 101, 102, 103, 104, 105, 106, 107, 108, 109, 110, 111, 112, 113] (by decide +kernel) (by decide +kernel)
set_option maxRecDepth 20000 in
theorem gX3_goThrough_X3_changeRow : GoodIn wsX3_goThrough (wsV RX3 227 RX3 yX3_changeRow wsX3_changeRow) := goodIn_app (goodIn_of _ (by decide +kernel)) ggX3_goThrough_X3_changeRow
set_option maxRecDepth 20000 in
theorem ggX3_goThrough_X3_positionBehind : GoodIn wsX3_goThrough wsX3_positionBehind := goodIn_r _ [85, 8, 1, 100, 101, 102, 103, 104, 105, 106] (by decide +kernel) (by decide +kernel)
set_option maxRecDepth 20000 in
theorem gX3_goThrough_X3_positionBehind : GoodIn wsX3_goThrough (wsV RX3 230 RX3 yX3_positionBehind wsX3_positionBehind) := goodIn_app (goodIn_of _ (by decide +kernel)) ggX3_goThrough_X3_positionBehind
set_option maxRecDepth 20000 in
theorem ggX3_goThrough_X1_setCrashed : GoodIn wsX3_goThrough wsX1_setCrashed := goodIn_r _ [90, 91, 114, 115, 116, 117] (by decide +kernel) (by decide +kernel)
set_option maxRecDepth 20000 in
theorem gX3_goThrough_X1_setCrashed : GoodIn wsX3_goThrough (wsV RX3 169 RX1 yX1_setCrashed wsX1_setCrashed) := goodIn_app (goodIn_of _ (by decide +kernel)) ggX3_goThrough_X1_setCrashed
set_option maxRecDepth 20000 in
theorem ggX3_goThrough_X3_endIfAllPassed : GoodIn wsX3_goThrough wsX3_endIfAllPassed := goodIn_r _ [95, 8, 28, 96, 97, 98, 6, 99, 1, 100, 101, 102, 103, 104, 105, 106] (by decide +kernel) (by decide +kernel)
set_option maxRecDepth 20000 in
theorem gX3_goThrough_X3_endIfAllPassed : GoodIn wsX3_goThrough (wsV RX3 233 RX3 yX3_endIfAllPassed wsX3_endIfAllPassed) := goodIn_app (goodIn_of _ (by decide +kernel)) ggX3_goThrough_X3_endIfAllPassed
theorem dX3_goThrough_0 : decode cX3_goThrough 0 = .ok (.iconst 0, 1) := by decide +kernel
theorem dX3_goThrough_1 : decode cX3_goThrough 1 = .ok (.istore 4, 2) := by decide +kernel
theorem dX3_goThrough_3 : decode cX3_goThrough 3 = .ok (.iconst 0, 1) := by decide +kernel
theorem dX3_goThrough_4 : decode cX3_goThrough 4 = .ok (.istore 5, 2) := by decide +kernel
theorem dX3_goThrough_6 : decode cX3_goThrough 6 = .ok (.iload 5, 2) := by decide +kernel
theorem dX3_goThrough_8 : decode cX3_goThrough 8 = .ok (.iload_n 1, 1) := by decide +kernel
theorem dX3_goThrough_9 : decode cX3_goThrough 9 = .ok (.if_icmp .ge 75, 3) := by decide +kernel
theorem dX3_goThrough_12 : decode cX3_goThrough 12 = .ok (.aload_n 0, 1) := by decide +kernel
theorem dX3_goThrough_13 : decode cX3_goThrough 13 = .ok (.iload 5, 2) := by decide +kernel
theorem dX3_goThrough_15 : decode cX3_goThrough 15 = .ok (.invokevirtual 221, 3) := by decide +kernel
theorem dX3_goThrough_18 : decode cX3_goThrough 18 = .ok (.istore 6, 2) := by decide +kernel
theorem dX3_goThrough_20 : decode cX3_goThrough 20 = .ok (.aload_n 0, 1) := by decide +kernel
theorem dX3_goThrough_21 : decode cX3_goThrough 21 = .ok (.iload 6, 2) := by decide +kernel
theorem dX3_goThrough_23 : decode cX3_goThrough 23 = .ok (.invokevirtual 224, 3) := by decide +kernel
theorem dX3_goThrough_26 : decode cX3_goThrough 26 = .ok (.ifCond .ne 6, 3) := by decide +kernel
theorem dX3_goThrough_29 : decode cX3_goThrough 29 = .ok (.goto 49, 3) := by decide +kernel
theorem dX3_goThrough_32 : decode cX3_goThrough 32 = .ok (.aload_n 0, 1) := by decide +kernel
theorem dX3_goThrough_33 : decode cX3_goThrough 33 = .ok (.iload 6, 2) := by decide +kernel
theorem dX3_goThrough_35 : decode cX3_goThrough 35 = .ok (.invokevirtual 227, 3) := by decide +kernel
theorem dX3_goThrough_38 : decode cX3_goThrough 38 = .ok (.ifCond .ne 19, 3) := by decide +kernel
theorem dX3_goThrough_41 : decode cX3_goThrough 41 = .ok (.aload_n 0, 1) := by decide +kernel
theorem dX3_goThrough_42 : decode cX3_goThrough 42 = .ok (.aload_n 0, 1) := by decide +kernel
theorem dX3_goThrough_43 : decode cX3_goThrough 43 = .ok (.iload 5, 2) := by decide +kernel
theorem dX3_goThrough_45 : decode cX3_goThrough 45 = .ok (.invokevirtual 230, 3) := by decide +kernel
theorem dX3_goThrough_48 : decode cX3_goThrough 48 = .ok (.putfield 184, 3) := by decide +kernel
theorem dX3_goThrough_51 : decode cX3_goThrough 51 = .ok (.iload 4, 2) := by decide +kernel
theorem dX3_goThrough_53 : decode cX3_goThrough 53 = .ok (.bipush 100, 2) := by decide +kernel
theorem dX3_goThrough_55 : decode cX3_goThrough 55 = .ok (.isub, 1) := by decide +kernel
theorem dX3_goThrough_56 : decode cX3_goThrough 56 = .ok (.ireturn, 1) := by decide +kernel
theorem dX3_goThrough_57 : decode cX3_goThrough 57 = .ok (.iinc 4 1, 3) := by decide +kernel
theorem dX3_goThrough_60 : decode cX3_goThrough 60 = .ok (.iload 4, 2) := by decide +kernel
theorem dX3_goThrough_62 : decode cX3_goThrough 62 = .ok (.iload_n 3, 1) := by decide +kernel
theorem dX3_goThrough_63 : decode cX3_goThrough 63 = .ok (.if_icmp .ne 15, 3) := by decide +kernel
theorem dX3_goThrough_66 : decode cX3_goThrough 66 = .ok (.aload_n 0, 1) := by decide +kernel
theorem dX3_goThrough_67 : decode cX3_goThrough 67 = .ok (.getfield 26, 3) := by decide +kernel
theorem dX3_goThrough_70 : decode cX3_goThrough 70 = .ok (.iload_n 2, 1) := by decide +kernel
theorem dX3_goThrough_71 : decode cX3_goThrough 71 = .ok (.iconst 1, 1) := by decide +kernel
theorem dX3_goThrough_72 : decode cX3_goThrough 72 = .ok (.invokevirtual 169, 3) := by decide +kernel
theorem dX3_goThrough_75 : decode cX3_goThrough 75 = .ok (.iload 4, 2) := by decide +kernel
theorem dX3_goThrough_77 : decode cX3_goThrough 77 = .ok (.ireturn, 1) := by decide +kernel
theorem dX3_goThrough_78 : decode cX3_goThrough 78 = .ok (.iinc 5 1, 3) := by decide +kernel
theorem dX3_goThrough_81 : decode cX3_goThrough 81 = .ok (.goto (-75), 3) := by decide +kernel
theorem dX3_goThrough_84 : decode cX3_goThrough 84 = .ok (.aload_n 0, 1) := by decide +kernel
theorem dX3_goThrough_85 : decode cX3_goThrough 85 = .ok (.aload_n 0, 1) := by decide +kernel
theorem dX3_goThrough_86 : decode cX3_goThrough 86 = .ok (.iload_n 1, 1) := by decide +kernel
theorem dX3_goThrough_87 : decode cX3_goThrough 87 = .ok (.invokevirtual 230, 3) := by decide +kernel
theorem dX3_goThrough_90 : decode cX3_goThrough 90 = .ok (.putfield 184, 3) := by decide +kernel
theorem dX3_goThrough_93 : decode cX3_goThrough 93 = .ok (.aload_n 0, 1) := by decide +kernel
theorem dX3_goThrough_94 : decode cX3_goThrough 94 = .ok (.invokevirtual 233, 3) := by decide +kernel
theorem dX3_goThrough_97 : decode cX3_goThrough 97 = .ok (.iload 4, 2) := by decide +kernel
theorem dX3_goThrough_99 : decode cX3_goThrough 99 = .ok (.ireturn, 1) := by decide +kernel
set_option maxRecDepth 20000 in
theorem ggX3_isToBeChanged_X2_isPresent : GoodIn wsX3_isToBeChanged wsX2_isPresent := goodIn_r _ [7, 8, 26, 27] (by decide +kernel) (by decide +kernel)
set_option maxRecDepth 20000 in
theorem gX3_isToBeChanged_X2_isPresent : GoodIn wsX3_isToBeChanged (wsV RX3 93 RX2 yX2_isPresent wsX2_isPresent) := goodIn_app (goodIn_of _ (by decide +kernel)) ggX3_isToBeChanged_X2_isPresent
set_option maxRecDepth 20000 in
theorem ggX3_isToBeChanged_X2_versionOf : GoodIn wsX3_isToBeChanged wsX2_versionOf := goodIn_r _ [12, 8, 26, 27] (by decide +kernel) (by decide +kernel)
set_option maxRecDepth 20000 in
theorem gX3_isToBeChanged_X2_versionOf : GoodIn wsX3_isToBeChanged (wsV RX3 119 RX2 yX2_versionOf wsX2_versionOf) := goodIn_app (goodIn_of _ (by decide +kernel)) ggX3_isToBeChanged_X2_versionOf
set_option maxRecDepth 20000 in
theorem ggX3_isToBeChanged_X3_activeNumber : GoodIn wsX3_isToBeChanged wsX3_activeNumber := goodIn_r _ [17, 18, 19, 20, 21, 22, 23, 24, 25] (by decide +kernel) (by decide +kernel)
set_option maxRecDepth 20000 in
theorem gX3_isToBeChanged_X3_activeNumber : GoodIn wsX3_isToBeChanged (wsV RX3 64 RX3 yX3_activeNumber wsX3_activeNumber) := goodIn_app (goodIn_of _ (by decide +kernel)) ggX3_isToBeChanged_X3_activeNumber
theorem dX3_isToBeChanged_0 : decode cX3_isToBeChanged 0 = .ok (.aload_n 0, 1) := by decide +kernel
theorem dX3_isToBeChanged_1 : decode cX3_isToBeChanged 1 = .ok (.getfield 19, 3) := by decide +kernel
theorem dX3_isToBeChanged_4 : decode cX3_isToBeChanged 4 = .ok (.iload_n 1, 1) := by decide +kernel
theorem dX3_isToBeChanged_5 : decode cX3_isToBeChanged 5 = .ok (.invokevirtual 93, 3) := by decide +kernel
theorem dX3_isToBeChanged_8 : decode cX3_isToBeChanged 8 = .ok (.ifCond .ne 5, 3) := by decide +kernel
theorem dX3_isToBeChanged_11 : decode cX3_isToBeChanged 11 = .ok (.iconst 0, 1) := by decide +kernel
theorem dX3_isToBeChanged_12 : decode cX3_isToBeChanged 12 = .ok (.ireturn, 1) := by decide +kernel
theorem dX3_isToBeChanged_13 : decode cX3_isToBeChanged 13 = .ok (.aload_n 0, 1) := by decide +kernel
theorem dX3_isToBeChanged_14 : decode cX3_isToBeChanged 14 = .ok (.getfield 19, 3) := by decide +kernel
theorem dX3_isToBeChanged_17 : decode cX3_isToBeChanged 17 = .ok (.iload_n 1, 1) := by decide +kernel
theorem dX3_isToBeChanged_18 : decode cX3_isToBeChanged 18 = .ok (.invokevirtual 119, 3) := by decide +kernel
theorem dX3_isToBeChanged_21 : decode cX3_isToBeChanged 21 = .ok (.aload_n 0, 1) := by decide +kernel
theorem dX3_isToBeChanged_22 : decode cX3_isToBeChanged 22 = .ok (.invokevirtual 64, 3) := by decide +kernel
theorem dX3_isToBeChanged_25 : decode cX3_isToBeChanged 25 = .ok (.if_icmp .lt 7, 3) := by decide +kernel
theorem dX3_isToBeChanged_28 : decode cX3_isToBeChanged 28 = .ok (.iconst 1, 1) := by decide +kernel
theorem dX3_isToBeChanged_29 : decode cX3_isToBeChanged 29 = .ok (.goto 4, 3) := by decide +kernel
theorem dX3_isToBeChanged_32 : decode cX3_isToBeChanged 32 = .ok (.iconst 0, 1) := by decide +kernel
theorem dX3_isToBeChanged_33 : decode cX3_isToBeChanged 33 = .ok (.istore_n 2, 1) := by decide +kernel
theorem dX3_isToBeChanged_34 : decode cX3_isToBeChanged 34 = .ok (.aload_n 0, 1) := by decide +kernel
theorem dX3_isToBeChanged_35 : decode cX3_isToBeChanged 35 = .ok (.getfield 34, 3) := by decide +kernel
theorem dX3_isToBeChanged_38 : decode cX3_isToBeChanged 38 = .ok (.iconst 1, 1) := by decide +kernel
theorem dX3_isToBeChanged_39 : decode cX3_isToBeChanged 39 = .ok (.if_icmp .ne 15, 3) := by decide +kernel
theorem dX3_isToBeChanged_42 : decode cX3_isToBeChanged 42 = .ok (.iload_n 2, 1) := by decide +kernel
theorem dX3_isToBeChanged_43 : decode cX3_isToBeChanged 43 = .ok (.ifCond .ne 7, 3) := by decide +kernel
theorem dX3_isToBeChanged_46 : decode cX3_isToBeChanged 46 = .ok (.iconst 1, 1) := by decide +kernel
theorem dX3_isToBeChanged_47 : decode cX3_isToBeChanged 47 = .ok (.goto 8, 3) := by decide +kernel
theorem dX3_isToBeChanged_50 : decode cX3_isToBeChanged 50 = .ok (.iconst 0, 1) := by decide +kernel
theorem dX3_isToBeChanged_51 : decode cX3_isToBeChanged 51 = .ok (.goto 4, 3) := by decide +kernel
theorem dX3_isToBeChanged_54 : decode cX3_isToBeChanged 54 = .ok (.iload_n 2, 1) := by decide +kernel
theorem dX3_isToBeChanged_55 : decode cX3_isToBeChanged 55 = .ok (.ireturn, 1) := by decide +kernel
set_option maxRecDepth 20000 in
theorem ggX3_changeRow_X2_versionOf : GoodIn wsX3_changeRow wsX2_versionOf := goodIn_r _ [8, 9, 66, 67] (by decide +kernel) (by decide +kernel)
set_option maxRecDepth 20000 in
theorem gX3_changeRow_X2_versionOf : GoodIn wsX3_changeRow (wsV RX3 119 RX2 yX2_versionOf wsX2_versionOf) := goodIn_app (goodIn_of _ (by decide +kernel)) ggX3_changeRow_X2_versionOf
set_option maxRecDepth 20000 in
theorem ggX3_changeRow_X2_copyRow : GoodIn wsX3_changeRow wsX2_copyRow := goodIn_r _ [13, 14, 15, 16, 7, 17, 18, 66, 67] (by decide +kernel) (by decide +kernel)
set_option maxRecDepth 20000 in
theorem gX3_changeRow_X2_copyRow : GoodIn wsX3_changeRow (wsV RX3 132 RX2 yX2_copyRow wsX2_copyRow) := goodIn_app (goodIn_of _ (by decide +kernel)) ggX3_changeRow_X2_copyRow
set_option maxRecDepth 20000 in
theorem ggX3_changeRow_X3_bringTried : GoodIn wsX3_changeRow wsX3_bringTried := goodIn_r _ [23, 24, 3, 25, 26, 27, 28, 29, 30, 31, 32, 33, 34, 35, 36, 22, 37, 38, 39, 40, 41, 42, 43, 44, 45, 46, 59, 60, 61, 62, 63, 64, 65, 68, 69, 70, 71, 72] (by decide +kernel) (by decide +kernel)
set_option maxRecDepth 20000 in
theorem gX3_changeRow_X3_bringTried : GoodIn wsX3_changeRow (wsV RX3 136 RX3 yX3_bringTried wsX3_bringTried) := goodIn_app (goodIn_of _ (by decide +kernel)) ggX3_changeRow_X3_bringTried
set_option maxRecDepth 20000 in
theorem ggX3_changeRow_X2_storeRow : GoodIn wsX3_changeRow wsX2_storeRow := goodIn_r _ [50, 51, 52, 53, 7, 54, 18, 66, 67] (by decide +kernel) (by decide +kernel)
set_option maxRecDepth 20000 in
theorem gX3_changeRow_X2_storeRow : GoodIn wsX3_changeRow (wsV RX3 236 RX2 yX2_storeRow wsX2_storeRow) := goodIn_app (goodIn_of _ (by decide +kernel)) ggX3_changeRow_X2_storeRow
set_option maxRecDepth 20000 in
theorem ggX3_changeRow_X2_setVersion : GoodIn wsX3_changeRow wsX2_setVersion := goodIn_r _ [58, 9, 66, 67] (by decide +kernel) (by decide +kernel)
set_option maxRecDepth 20000 in
theorem gX3_changeRow_X2_setVersion : GoodIn wsX3_changeRow (wsV RX3 105 RX2 yX2_setVersion wsX2_setVersion) := goodIn_app (goodIn_of _ (by decide +kernel)) ggX3_changeRow_X2_setVersion
theorem dX3_changeRow_0 : decode cX3_changeRow 0 = .ok (.aload_n 0, 1) := by decide +kernel
theorem dX3_changeRow_1 : decode cX3_changeRow 1 = .ok (.getfield 19, 3) := by decide +kernel
theorem dX3_changeRow_4 : decode cX3_changeRow 4 = .ok (.iload_n 1, 1) := by decide +kernel
theorem dX3_changeRow_5 : decode cX3_changeRow 5 = .ok (.invokevirtual 119, 3) := by decide +kernel
theorem dX3_changeRow_8 : decode cX3_changeRow 8 = .ok (.istore_n 2, 1) := by decide +kernel
theorem dX3_changeRow_9 : decode cX3_changeRow 9 = .ok (.aload_n 0, 1) := by decide +kernel
theorem dX3_changeRow_10 : decode cX3_changeRow 10 = .ok (.getfield 34, 3) := by decide +kernel
theorem dX3_changeRow_13 : decode cX3_changeRow 13 = .ok (.iconst 1, 1) := by decide +kernel
theorem dX3_changeRow_14 : decode cX3_changeRow 14 = .ok (.if_icmp .ne 9, 3) := by decide +kernel
theorem dX3_changeRow_17 : decode cX3_changeRow 17 = .ok (.iload_n 2, 1) := by decide +kernel
theorem dX3_changeRow_18 : decode cX3_changeRow 18 = .ok (.iconst 1, 1) := by decide +kernel
theorem dX3_changeRow_19 : decode cX3_changeRow 19 = .ok (.iadd, 1) := by decide +kernel
theorem dX3_changeRow_20 : decode cX3_changeRow 20 = .ok (.goto 6, 3) := by decide +kernel
theorem dX3_changeRow_23 : decode cX3_changeRow 23 = .ok (.iload_n 2, 1) := by decide +kernel
theorem dX3_changeRow_24 : decode cX3_changeRow 24 = .ok (.iconst 1, 1) := by decide +kernel
theorem dX3_changeRow_25 : decode cX3_changeRow 25 = .ok (.isub, 1) := by decide +kernel
theorem dX3_changeRow_26 : decode cX3_changeRow 26 = .ok (.istore_n 3, 1) := by decide +kernel
theorem dX3_changeRow_27 : decode cX3_changeRow 27 = .ok (.aload_n 0, 1) := by decide +kernel
theorem dX3_changeRow_28 : decode cX3_changeRow 28 = .ok (.getfield 19, 3) := by decide +kernel
theorem dX3_changeRow_31 : decode cX3_changeRow 31 = .ok (.iload_n 1, 1) := by decide +kernel
theorem dX3_changeRow_32 : decode cX3_changeRow 32 = .ok (.aload_n 0, 1) := by decide +kernel
theorem dX3_changeRow_33 : decode cX3_changeRow 33 = .ok (.getfield 30, 3) := by decide +kernel
theorem dX3_changeRow_36 : decode cX3_changeRow 36 = .ok (.invokevirtual 132, 3) := by decide +kernel
theorem dX3_changeRow_39 : decode cX3_changeRow 39 = .ok (.aload_n 0, 1) := by decide +kernel
theorem dX3_changeRow_40 : decode cX3_changeRow 40 = .ok (.iload_n 2, 1) := by decide +kernel
theorem dX3_changeRow_41 : decode cX3_changeRow 41 = .ok (.iload_n 3, 1) := by decide +kernel
theorem dX3_changeRow_42 : decode cX3_changeRow 42 = .ok (.invokevirtual 136, 3) := by decide +kernel
theorem dX3_changeRow_45 : decode cX3_changeRow 45 = .ok (.ifCond .ne 5, 3) := by decide +kernel
theorem dX3_changeRow_48 : decode cX3_changeRow 48 = .ok (.iconst 0, 1) := by decide +kernel
theorem dX3_changeRow_49 : decode cX3_changeRow 49 = .ok (.ireturn, 1) := by decide +kernel
theorem dX3_changeRow_50 : decode cX3_changeRow 50 = .ok (.aload_n 0, 1) := by decide +kernel
theorem dX3_changeRow_51 : decode cX3_changeRow 51 = .ok (.getfield 19, 3) := by decide +kernel
theorem dX3_changeRow_54 : decode cX3_changeRow 54 = .ok (.iload_n 1, 1) := by decide +kernel
theorem dX3_changeRow_55 : decode cX3_changeRow 55 = .ok (.aload_n 0, 1) := by decide +kernel
theorem dX3_changeRow_56 : decode cX3_changeRow 56 = .ok (.getfield 30, 3) := by decide +kernel
theorem dX3_changeRow_59 : decode cX3_changeRow 59 = .ok (.invokevirtual 236, 3) := by decide +kernel
theorem dX3_changeRow_62 : decode cX3_changeRow 62 = .ok (.aload_n 0, 1) := by decide +kernel
theorem dX3_changeRow_63 : decode cX3_changeRow 63 = .ok (.getfield 19, 3) := by decide +kernel
theorem dX3_changeRow_66 : decode cX3_changeRow 66 = .ok (.iload_n 1, 1) := by decide +kernel
theorem dX3_changeRow_67 : decode cX3_changeRow 67 = .ok (.iload_n 3, 1) := by decide +kernel
theorem dX3_changeRow_68 : decode cX3_changeRow 68 = .ok (.invokevirtual 105, 3) := by decide +kernel
theorem dX3_changeRow_71 : decode cX3_changeRow 71 = .ok (.iconst 1, 1) := by decide +kernel
theorem dX3_changeRow_72 : decode cX3_changeRow 72 = .ok (.ireturn, 1) := by decide +kernel
set_option maxRecDepth 20000 in
theorem ggX3_endIfAllPassed_X3_idsLeft : GoodIn wsX3_endIfAllPassed wsX3_idsLeft := goodIn_r _ [7, 1, 8, 9, 10, 11, 12, 13, 14, 15] (by decide +kernel) (by decide +kernel)
set_option maxRecDepth 20000 in
theorem gX3_endIfAllPassed_X3_idsLeft : GoodIn wsX3_endIfAllPassed (wsV RX3 202 RX3 yX3_idsLeft wsX3_idsLeft) := goodIn_app (goodIn_of _ (by decide +kernel)) ggX3_endIfAllPassed_X3_idsLeft
theorem dX3_endIfAllPassed_0 : decode cX3_endIfAllPassed 0 = .ok (.aload_n 0, 1) := by decide +kernel
theorem dX3_endIfAllPassed_1 : decode cX3_endIfAllPassed 1 = .ok (.invokevirtual 202, 3) := by decide +kernel
theorem dX3_endIfAllPassed_4 : decode cX3_endIfAllPassed 4 = .ok (.ifCond .le 4, 3) := by decide +kernel
theorem dX3_endIfAllPassed_7 : decode cX3_endIfAllPassed 7 = .ok (.return_, 1) := by decide +kernel
theorem dX3_endIfAllPassed_8 : decode cX3_endIfAllPassed 8 = .ok (.aload_n 0, 1) := by decide +kernel
theorem dX3_endIfAllPassed_9 : decode cX3_endIfAllPassed 9 = .ok (.getfield 34, 3) := by decide +kernel
theorem dX3_endIfAllPassed_12 : decode cX3_endIfAllPassed 12 = .ok (.iconst 1, 1) := by decide +kernel
theorem dX3_endIfAllPassed_13 : decode cX3_endIfAllPassed 13 = .ok (.if_icmp .ne 13, 3) := by decide +kernel
theorem dX3_endIfAllPassed_16 : decode cX3_endIfAllPassed 16 = .ok (.aload_n 0, 1) := by decide +kernel
theorem dX3_endIfAllPassed_17 : decode cX3_endIfAllPassed 17 = .ok (.dup, 1) := by decide +kernel
theorem dX3_endIfAllPassed_18 : decode cX3_endIfAllPassed 18 = .ok (.getfield 81, 3) := by decide +kernel
theorem dX3_endIfAllPassed_21 : decode cX3_endIfAllPassed 21 = .ok (.iconst 1, 1) := by decide +kernel
theorem dX3_endIfAllPassed_22 : decode cX3_endIfAllPassed 22 = .ok (.iadd, 1) := by decide +kernel
theorem dX3_endIfAllPassed_23 : decode cX3_endIfAllPassed 23 = .ok (.putfield 81, 3) := by decide +kernel
theorem dX3_endIfAllPassed_26 : decode cX3_endIfAllPassed 26 = .ok (.aload_n 0, 1) := by decide +kernel
theorem dX3_endIfAllPassed_27 : decode cX3_endIfAllPassed 27 = .ok (.iconst 0, 1) := by decide +kernel
theorem dX3_endIfAllPassed_28 : decode cX3_endIfAllPassed 28 = .ok (.putfield 34, 3) := by decide +kernel
theorem dX3_endIfAllPassed_31 : decode cX3_endIfAllPassed 31 = .ok (.return_, 1) := by decide +kernel
set_option maxRecDepth 20000 in
theorem ggX3_bringTried_X0_applyTo : GoodIn wsX3_bringTried wsX0_applyTo := goodIn_r _ [7, 8, 9, 10, 11, 12, 6, 13, 14, 15, 16, 17, 18, 19, 20, 21, 33, 34, 35, 36, 37] (by decide +kernel) (by decide +kernel)
set_option maxRecDepth 20000 in
theorem gX3_bringTried_X0_applyTo : GoodIn wsX3_bringTried (wsV RX3 239 RX0 yX0_applyTo wsX0_applyTo) := goodIn_app (goodIn_of _ (by decide +kernel)) ggX3_bringTried_X0_applyTo
set_option maxRecDepth 20000 in
theorem ggX3_bringTried_X0_undoOn : GoodIn wsX3_bringTried wsX0_undoOn := goodIn_r _ [25, 8, 9, 10, 11, 12, 6, 13, 14, 15, 16, 17, 18, 19, 20, 21, 33, 34, 35, 36, 37] (by decide +kernel) (by decide +kernel)
set_option maxRecDepth 20000 in
theorem gX3_bringTried_X0_undoOn : GoodIn wsX3_bringTried (wsV RX3 243 RX0 yX0_undoOn wsX0_undoOn) := goodIn_app (goodIn_of _ (by decide +kernel)) ggX3_bringTried_X0_undoOn
theorem dX3_bringTried_0 : decode cX3_bringTried 0 = .ok (.iload_n 1, 1) := by decide +kernel
theorem dX3_bringTried_1 : decode cX3_bringTried 1 = .ok (.iconst 1, 1) := by decide +kernel
theorem dX3_bringTried_2 : decode cX3_bringTried 2 = .ok (.iadd, 1) := by decide +kernel
theorem dX3_bringTried_3 : decode cX3_bringTried 3 = .ok (.istore_n 3, 1) := by decide +kernel
theorem dX3_bringTried_4 : decode cX3_bringTried 4 = .ok (.iload_n 3, 1) := by decide +kernel
theorem dX3_bringTried_5 : decode cX3_bringTried 5 = .ok (.iload_n 2, 1) := by decide +kernel
theorem dX3_bringTried_6 : decode cX3_bringTried 6 = .ok (.if_icmp .gt 26, 3) := by decide +kernel
theorem dX3_bringTried_9 : decode cX3_bringTried 9 = .ok (.aload_n 0, 1) := by decide +kernel
theorem dX3_bringTried_10 : decode cX3_bringTried 10 = .ok (.getfield 10, 3) := by decide +kernel
theorem dX3_bringTried_13 : decode cX3_bringTried 13 = .ok (.aload_n 0, 1) := by decide +kernel
theorem dX3_bringTried_14 : decode cX3_bringTried 14 = .ok (.getfield 30, 3) := by decide +kernel
theorem dX3_bringTried_17 : decode cX3_bringTried 17 = .ok (.iload_n 3, 1) := by decide +kernel
theorem dX3_bringTried_18 : decode cX3_bringTried 18 = .ok (.invokevirtual 239, 3) := by decide +kernel
theorem dX3_bringTried_21 : decode cX3_bringTried 21 = .ok (.ifCond .ne 5, 3) := by decide +kernel
theorem dX3_bringTried_24 : decode cX3_bringTried 24 = .ok (.iconst 0, 1) := by decide +kernel
theorem dX3_bringTried_25 : decode cX3_bringTried 25 = .ok (.ireturn, 1) := by decide +kernel
theorem dX3_bringTried_26 : decode cX3_bringTried 26 = .ok (.iinc 3 1, 3) := by decide +kernel
theorem dX3_bringTried_29 : decode cX3_bringTried 29 = .ok (.goto (-25), 3) := by decide +kernel
theorem dX3_bringTried_32 : decode cX3_bringTried 32 = .ok (.iload_n 1, 1) := by decide +kernel
theorem dX3_bringTried_33 : decode cX3_bringTried 33 = .ok (.istore_n 3, 1) := by decide +kernel
theorem dX3_bringTried_34 : decode cX3_bringTried 34 = .ok (.iload_n 3, 1) := by decide +kernel
theorem dX3_bringTried_35 : decode cX3_bringTried 35 = .ok (.iload_n 2, 1) := by decide +kernel
theorem dX3_bringTried_36 : decode cX3_bringTried 36 = .ok (.if_icmp .le 26, 3) := by decide +kernel
theorem dX3_bringTried_39 : decode cX3_bringTried 39 = .ok (.aload_n 0, 1) := by decide +kernel
theorem dX3_bringTried_40 : decode cX3_bringTried 40 = .ok (.getfield 10, 3) := by decide +kernel
theorem dX3_bringTried_43 : decode cX3_bringTried 43 = .ok (.aload_n 0, 1) := by decide +kernel
theorem dX3_bringTried_44 : decode cX3_bringTried 44 = .ok (.getfield 30, 3) := by decide +kernel
theorem dX3_bringTried_47 : decode cX3_bringTried 47 = .ok (.iload_n 3, 1) := by decide +kernel
theorem dX3_bringTried_48 : decode cX3_bringTried 48 = .ok (.invokevirtual 243, 3) := by decide +kernel
theorem dX3_bringTried_51 : decode cX3_bringTried 51 = .ok (.ifCond .ne 5, 3) := by decide +kernel
theorem dX3_bringTried_54 : decode cX3_bringTried 54 = .ok (.iconst 0, 1) := by decide +kernel
theorem dX3_bringTried_55 : decode cX3_bringTried 55 = .ok (.ireturn, 1) := by decide +kernel
theorem dX3_bringTried_56 : decode cX3_bringTried 56 = .ok (.iinc 3 (-1), 3) := by decide +kernel
theorem dX3_bringTried_59 : decode cX3_bringTried 59 = .ok (.goto (-25), 3) := by decide +kernel
theorem dX3_bringTried_62 : decode cX3_bringTried 62 = .ok (.iconst 1, 1) := by decide +kernel
theorem dX3_bringTried_63 : decode cX3_bringTried 63 = .ok (.ireturn, 1) := by decide +kernel
theorem dX3_isTableValue_0 : decode cX3_isTableValue 0 = .ok (.lload_n 0, 1) := by decide +kernel
theorem dX3_isTableValue_1 : decode cX3_isTableValue 1 = .ok (.ldc2_w 246, 3) := by decide +kernel
theorem dX3_isTableValue_4 : decode cX3_isTableValue 4 = .ok (.lcmp, 1) := by decide +kernel
theorem dX3_isTableValue_5 : decode cX3_isTableValue 5 = .ok (.ifCond .lt 15, 3) := by decide +kernel
theorem dX3_isTableValue_8 : decode cX3_isTableValue 8 = .ok (.lload_n 0, 1) := by decide +kernel
theorem dX3_isTableValue_9 : decode cX3_isTableValue 9 = .ok (.ldc2_w 248, 3) := by decide +kernel
theorem dX3_isTableValue_12 : decode cX3_isTableValue 12 = .ok (.lcmp, 1) := by decide +kernel
theorem dX3_isTableValue_13 : decode cX3_isTableValue 13 = .ok (.ifCond .gt 7, 3) := by decide +kernel
theorem dX3_isTableValue_16 : decode cX3_isTableValue 16 = .ok (.iconst 1, 1) := by decide +kernel
theorem dX3_isTableValue_17 : decode cX3_isTableValue 17 = .ok (.goto 4, 3) := by decide +kernel
theorem dX3_isTableValue_20 : decode cX3_isTableValue 20 = .ok (.iconst 0, 1) := by decide +kernel
theorem dX3_isTableValue_21 : decode cX3_isTableValue 21 = .ok (.ireturn, 1) := by decide +kernel
theorem dX3_isColumn_0 : decode cX3_isColumn 0 = .ok (.iload_n 0, 1) := by decide +kernel
theorem dX3_isColumn_1 : decode cX3_isColumn 1 = .ok (.ifCond .lt 12, 3) := by decide +kernel
theorem dX3_isColumn_4 : decode cX3_isColumn 4 = .ok (.iload_n 0, 1) := by decide +kernel
theorem dX3_isColumn_5 : decode cX3_isColumn 5 = .ok (.iconst 3, 1) := by decide +kernel
theorem dX3_isColumn_6 : decode cX3_isColumn 6 = .ok (.if_icmp .ge 7, 3) := by decide +kernel
theorem dX3_isColumn_9 : decode cX3_isColumn 9 = .ok (.iconst 1, 1) := by decide +kernel
theorem dX3_isColumn_10 : decode cX3_isColumn 10 = .ok (.goto 4, 3) := by decide +kernel
theorem dX3_isColumn_13 : decode cX3_isColumn 13 = .ok (.iconst 0, 1) := by decide +kernel
theorem dX3_isColumn_14 : decode cX3_isColumn 14 = .ok (.ireturn, 1) := by decide +kernel
set_option maxRecDepth 20000 in
theorem ggX3_isOperand_X3_isColumn : GoodIn wsX3_isOperand wsX3_isColumn := goodIn_r _ [4] (by decide +kernel) (by decide +kernel)
set_option maxRecDepth 20000 in
theorem gX3_isOperand_X3_isColumn : GoodIn wsX3_isOperand (va_wsS RX3 250 yX3_isColumn wsX3_isColumn) := goodIn_app (goodIn_of _ (by decide +kernel)) ggX3_isOperand_X3_isColumn
theorem dX3_isOperand_0 : decode cX3_isOperand 0 = .ok (.iload_n 0, 1) := by decide +kernel
theorem dX3_isOperand_1 : decode cX3_isOperand 1 = .ok (.lookupswitch 69 #[(0, 27), (1, 47)], 27) := by decide +kernel
theorem dX3_isOperand_28 : decode cX3_isOperand 28 = .ok (.iload_n 2, 1) := by decide +kernel
theorem dX3_isOperand_29 : decode cX3_isOperand 29 = .ok (.sipush (-1000), 3) := by decide +kernel
theorem dX3_isOperand_32 : decode cX3_isOperand 32 = .ok (.if_icmp .lt 14, 3) := by decide +kernel
theorem dX3_isOperand_35 : decode cX3_isOperand 35 = .ok (.iload_n 2, 1) := by decide +kernel
theorem dX3_isOperand_36 : decode cX3_isOperand 36 = .ok (.sipush 1000, 3) := by decide +kernel
theorem dX3_isOperand_39 : decode cX3_isOperand 39 = .ok (.if_icmp .gt 7, 3) := by decide +kernel
theorem dX3_isOperand_42 : decode cX3_isOperand 42 = .ok (.iconst 1, 1) := by decide +kernel
theorem dX3_isOperand_43 : decode cX3_isOperand 43 = .ok (.goto 4, 3) := by decide +kernel
theorem dX3_isOperand_46 : decode cX3_isOperand 46 = .ok (.iconst 0, 1) := by decide +kernel
theorem dX3_isOperand_47 : decode cX3_isOperand 47 = .ok (.ireturn, 1) := by decide +kernel
theorem dX3_isOperand_48 : decode cX3_isOperand 48 = .ok (.iload_n 2, 1) := by decide +kernel
theorem dX3_isOperand_49 : decode cX3_isOperand 49 = .ok (.bipush (-9), 2) := by decide +kernel
theorem dX3_isOperand_51 : decode cX3_isOperand 51 = .ok (.if_icmp .lt 17, 3) := by decide +kernel
theorem dX3_isOperand_54 : decode cX3_isOperand 54 = .ok (.iload_n 2, 1) := by decide +kernel
theorem dX3_isOperand_55 : decode cX3_isOperand 55 = .ok (.bipush 9, 2) := by decide +kernel
theorem dX3_isOperand_57 : decode cX3_isOperand 57 = .ok (.if_icmp .gt 11, 3) := by decide +kernel
theorem dX3_isOperand_60 : decode cX3_isOperand 60 = .ok (.iload_n 2, 1) := by decide +kernel
theorem dX3_isOperand_61 : decode cX3_isOperand 61 = .ok (.ifCond .eq 7, 3) := by decide +kernel
theorem dX3_isOperand_64 : decode cX3_isOperand 64 = .ok (.iconst 1, 1) := by decide +kernel
theorem dX3_isOperand_65 : decode cX3_isOperand 65 = .ok (.goto 4, 3) := by decide +kernel
theorem dX3_isOperand_68 : decode cX3_isOperand 68 = .ok (.iconst 0, 1) := by decide +kernel
theorem dX3_isOperand_69 : decode cX3_isOperand 69 = .ok (.ireturn, 1) := by decide +kernel
theorem dX3_isOperand_70 : decode cX3_isOperand 70 = .ok (.iload_n 2, 1) := by decide +kernel
theorem dX3_isOperand_71 : decode cX3_isOperand 71 = .ok (.invokestatic 250, 3) := by decide +kernel
theorem dX3_isOperand_74 : decode cX3_isOperand 74 = .ok (.ifCond .eq 12, 3) := by decide +kernel
theorem dX3_isOperand_77 : decode cX3_isOperand 77 = .ok (.iload_n 2, 1) := by decide +kernel
theorem dX3_isOperand_78 : decode cX3_isOperand 78 = .ok (.iload_n 1, 1) := by decide +kernel
theorem dX3_isOperand_79 : decode cX3_isOperand 79 = .ok (.if_icmp .eq 7, 3) := by decide +kernel
theorem dX3_isOperand_82 : decode cX3_isOperand 82 = .ok (.iconst 1, 1) := by decide +kernel
theorem dX3_isOperand_83 : decode cX3_isOperand 83 = .ok (.goto 4, 3) := by decide +kernel
theorem dX3_isOperand_86 : decode cX3_isOperand 86 = .ok (.iconst 0, 1) := by decide +kernel
theorem dX3_isOperand_87 : decode cX3_isOperand 87 = .ok (.ireturn, 1) := by decide +kernel
set_option maxRecDepth 20000 in
theorem ggX3_requireChangeParts_X3_requireColumn : GoodIn wsX3_requireChangeParts wsX3_requireColumn := goodIn_ca (goodIn_r _ [6, 1, 2, 7, 8, 5, 9] (by decide +kernel) (by decide +kernel)) (goodIn_sub (fun _ h => List.mem_cons_of_mem _ (List.mem_append_right _ h)) (by decide +kernel))
set_option maxRecDepth 20000 in
theorem gX3_requireChangeParts_X3_requireColumn : GoodIn wsX3_requireChangeParts (va_wsS RX3 109 yX3_requireColumn wsX3_requireColumn) := goodIn_app (goodIn_of _ (by decide +kernel)) ggX3_requireChangeParts_X3_requireColumn
set_option maxRecDepth 20000 in
theorem ggX3_requireChangeParts_X3_isOperand : GoodIn wsX3_requireChangeParts wsX3_isOperand := goodIn_r _ [12, 7, 8, 5, 9] (by decide +kernel) (by decide +kernel)
set_option maxRecDepth 20000 in
theorem gX3_requireChangeParts_X3_isOperand : GoodIn wsX3_requireChangeParts (va_wsS RX3 255 yX3_isOperand wsX3_isOperand) := goodIn_app (goodIn_of _ (by decide +kernel)) ggX3_requireChangeParts_X3_isOperand
theorem dX3_requireChangeParts_0 : decode cX3_requireChangeParts 0 = .ok (.iload_n 0, 1) := by decide +kernel
theorem dX3_requireChangeParts_1 : decode cX3_requireChangeParts 1 = .ok (.ifCond .lt 8, 3) := by decide +kernel
theorem dX3_requireChangeParts_4 : decode cX3_requireChangeParts 4 = .ok (.iload_n 0, 1) := by decide +kernel
theorem dX3_requireChangeParts_5 : decode cX3_requireChangeParts 5 = .ok (.iconst 2, 1) := by decide +kernel
theorem dX3_requireChangeParts_6 : decode cX3_requireChangeParts 6 = .ok (.if_icmp .le 13, 3) := by decide +kernel
theorem dX3_requireChangeParts_9 : decode cX3_requireChangeParts 9 = .ok (.new 122, 3) := by decide +kernel
theorem dX3_requireChangeParts_12 : decode cX3_requireChangeParts 12 = .ok (.dup, 1) := by decide +kernel
theorem dX3_requireChangeParts_13 : decode cX3_requireChangeParts 13 = .ok (.ldc 253, 2) := by decide +kernel
theorem dX3_requireChangeParts_15 : decode cX3_requireChangeParts 15 = .ok (.invokespecial 126, 3) := by decide +kernel
theorem dX3_requireChangeParts_18 : decode cX3_requireChangeParts 18 = .ok (.athrow, 1) := by decide +kernel
theorem dX3_requireChangeParts_19 : decode cX3_requireChangeParts 19 = .ok (.iload_n 1, 1) := by decide +kernel
theorem dX3_requireChangeParts_20 : decode cX3_requireChangeParts 20 = .ok (.invokestatic 109, 3) := by decide +kernel
theorem dX3_requireChangeParts_23 : decode cX3_requireChangeParts 23 = .ok (.iload_n 0, 1) := by decide +kernel
theorem dX3_requireChangeParts_24 : decode cX3_requireChangeParts 24 = .ok (.iload_n 1, 1) := by decide +kernel
theorem dX3_requireChangeParts_25 : decode cX3_requireChangeParts 25 = .ok (.iload_n 2, 1) := by decide +kernel
theorem dX3_requireChangeParts_26 : decode cX3_requireChangeParts 26 = .ok (.invokestatic 255, 3) := by decide +kernel
theorem dX3_requireChangeParts_29 : decode cX3_requireChangeParts 29 = .ok (.ifCond .ne 14, 3) := by decide +kernel
theorem dX3_requireChangeParts_32 : decode cX3_requireChangeParts 32 = .ok (.new 122, 3) := by decide +kernel
theorem dX3_requireChangeParts_35 : decode cX3_requireChangeParts 35 = .ok (.dup, 1) := by decide +kernel
theorem dX3_requireChangeParts_36 : decode cX3_requireChangeParts 36 = .ok (.ldc_w 259, 3) := by decide +kernel
theorem dX3_requireChangeParts_39 : decode cX3_requireChangeParts 39 = .ok (.invokespecial 126, 3) := by decide +kernel
theorem dX3_requireChangeParts_42 : decode cX3_requireChangeParts 42 = .ok (.athrow, 1) := by decide +kernel
theorem dX3_requireChangeParts_43 : decode cX3_requireChangeParts 43 = .ok (.return_, 1) := by decide +kernel
set_option maxRecDepth 20000 in
theorem ggX3_requireColumn_X3_isColumn : GoodIn wsX3_requireColumn wsX3_isColumn := goodIn_r _ [6] (by decide +kernel) (by decide +kernel)
set_option maxRecDepth 20000 in
theorem gX3_requireColumn_X3_isColumn : GoodIn wsX3_requireColumn (va_wsS RX3 250 yX3_isColumn wsX3_isColumn) := goodIn_app (goodIn_of _ (by decide +kernel)) ggX3_requireColumn_X3_isColumn
theorem dX3_requireColumn_0 : decode cX3_requireColumn 0 = .ok (.iload_n 0, 1) := by decide +kernel
theorem dX3_requireColumn_1 : decode cX3_requireColumn 1 = .ok (.invokestatic 250, 3) := by decide +kernel
theorem dX3_requireColumn_4 : decode cX3_requireColumn 4 = .ok (.ifCond .ne 14, 3) := by decide +kernel
theorem dX3_requireColumn_7 : decode cX3_requireColumn 7 = .ok (.new 122, 3) := by decide +kernel
theorem dX3_requireColumn_10 : decode cX3_requireColumn 10 = .ok (.dup, 1) := by decide +kernel
theorem dX3_requireColumn_11 : decode cX3_requireColumn 11 = .ok (.ldc_w 261, 3) := by decide +kernel
theorem dX3_requireColumn_14 : decode cX3_requireColumn 14 = .ok (.invokespecial 126, 3) := by decide +kernel
theorem dX3_requireColumn_17 : decode cX3_requireColumn 17 = .ok (.athrow, 1) := by decide +kernel
theorem dX3_requireColumn_18 : decode cX3_requireColumn 18 = .ok (.return_, 1) := by decide +kernel
theorem dX3_requireId_0 : decode cX3_requireId 0 = .ok (.iload_n 0, 1) := by decide +kernel
theorem dX3_requireId_1 : decode cX3_requireId 1 = .ok (.ifCond .lt 9, 3) := by decide +kernel
theorem dX3_requireId_4 : decode cX3_requireId 4 = .ok (.iload_n 0, 1) := by decide +kernel
theorem dX3_requireId_5 : decode cX3_requireId 5 = .ok (.bipush 40, 2) := by decide +kernel
theorem dX3_requireId_7 : decode cX3_requireId 7 = .ok (.if_icmp .lt 14, 3) := by decide +kernel
theorem dX3_requireId_10 : decode cX3_requireId 10 = .ok (.new 122, 3) := by decide +kernel
theorem dX3_requireId_13 : decode cX3_requireId 13 = .ok (.dup, 1) := by decide +kernel
theorem dX3_requireId_14 : decode cX3_requireId 14 = .ok (.ldc_w 263, 3) := by decide +kernel
theorem dX3_requireId_17 : decode cX3_requireId 17 = .ok (.invokespecial 126, 3) := by decide +kernel
theorem dX3_requireId_20 : decode cX3_requireId 20 = .ok (.athrow, 1) := by decide +kernel
theorem dX3_requireId_21 : decode cX3_requireId 21 = .ok (.return_, 1) := by decide +kernel
set_option maxRecDepth 20000 in
theorem ggX3_requireTableValue_X3_isTableValue : GoodIn wsX3_requireTableValue wsX3_isTableValue := goodIn_r _ [6, 7, 8] (by decide +kernel) (by decide +kernel)
set_option maxRecDepth 20000 in
theorem gX3_requireTableValue_X3_isTableValue : GoodIn wsX3_requireTableValue (va_wsS RX3 265 yX3_isTableValue wsX3_isTableValue) := goodIn_app (goodIn_of _ (by decide +kernel)) ggX3_requireTableValue_X3_isTableValue
theorem dX3_requireTableValue_0 : decode cX3_requireTableValue 0 = .ok (.iload_n 0, 1) := by decide +kernel
theorem dX3_requireTableValue_1 : decode cX3_requireTableValue 1 = .ok (.i2l, 1) := by decide +kernel
theorem dX3_requireTableValue_2 : decode cX3_requireTableValue 2 = .ok (.invokestatic 265, 3) := by decide +kernel
theorem dX3_requireTableValue_5 : decode cX3_requireTableValue 5 = .ok (.ifCond .ne 14, 3) := by decide +kernel
theorem dX3_requireTableValue_8 : decode cX3_requireTableValue 8 = .ok (.new 122, 3) := by decide +kernel
theorem dX3_requireTableValue_11 : decode cX3_requireTableValue 11 = .ok (.dup, 1) := by decide +kernel
theorem dX3_requireTableValue_12 : decode cX3_requireTableValue 12 = .ok (.ldc_w 269, 3) := by decide +kernel
theorem dX3_requireTableValue_15 : decode cX3_requireTableValue 15 = .ok (.invokespecial 126, 3) := by decide +kernel
theorem dX3_requireTableValue_18 : decode cX3_requireTableValue 18 = .ok (.athrow, 1) := by decide +kernel
theorem dX3_requireTableValue_19 : decode cX3_requireTableValue 19 = .ok (.return_, 1) := by decide +kernel
theorem dX3_requireWorker_0 : decode cX3_requireWorker 0 = .ok (.iload_n 0, 1) := by decide +kernel
theorem dX3_requireWorker_1 : decode cX3_requireWorker 1 = .ok (.ifCond .lt 8, 3) := by decide +kernel
theorem dX3_requireWorker_4 : decode cX3_requireWorker 4 = .ok (.iload_n 0, 1) := by decide +kernel
theorem dX3_requireWorker_5 : decode cX3_requireWorker 5 = .ok (.iconst 4, 1) := by decide +kernel
theorem dX3_requireWorker_6 : decode cX3_requireWorker 6 = .ok (.if_icmp .lt 14, 3) := by decide +kernel
theorem dX3_requireWorker_9 : decode cX3_requireWorker 9 = .ok (.new 122, 3) := by decide +kernel
theorem dX3_requireWorker_12 : decode cX3_requireWorker 12 = .ok (.dup, 1) := by decide +kernel
theorem dX3_requireWorker_13 : decode cX3_requireWorker 13 = .ok (.ldc_w 271, 3) := by decide +kernel
theorem dX3_requireWorker_16 : decode cX3_requireWorker 16 = .ok (.invokespecial 126, 3) := by decide +kernel
theorem dX3_requireWorker_19 : decode cX3_requireWorker 19 = .ok (.athrow, 1) := by decide +kernel
theorem dX3_requireWorker_20 : decode cX3_requireWorker 20 = .ok (.return_, 1) := by decide +kernel
set_option maxRecDepth 20000 in
theorem ggX3_requireListed_X0_contains : GoodIn wsX3_requireListed wsX0_contains := goodIn_r _ [8, 9, 17, 18, 19, 20, 21] (by decide +kernel) (by decide +kernel)
set_option maxRecDepth 20000 in
theorem gX3_requireListed_X0_contains : GoodIn wsX3_requireListed (wsV RX3 273 RX0 yX0_contains wsX0_contains) := goodIn_app (goodIn_of _ (by decide +kernel)) ggX3_requireListed_X0_contains
theorem dX3_requireListed_0 : decode cX3_requireListed 0 = .ok (.aload_n 0, 1) := by decide +kernel
theorem dX3_requireListed_1 : decode cX3_requireListed 1 = .ok (.getfield 10, 3) := by decide +kernel
theorem dX3_requireListed_4 : decode cX3_requireListed 4 = .ok (.iload_n 1, 1) := by decide +kernel
theorem dX3_requireListed_5 : decode cX3_requireListed 5 = .ok (.invokevirtual 273, 3) := by decide +kernel
theorem dX3_requireListed_8 : decode cX3_requireListed 8 = .ok (.ifCond .ne 14, 3) := by decide +kernel
theorem dX3_requireListed_11 : decode cX3_requireListed 11 = .ok (.new 276, 3) := by decide +kernel
theorem dX3_requireListed_14 : decode cX3_requireListed 14 = .ok (.dup, 1) := by decide +kernel
theorem dX3_requireListed_15 : decode cX3_requireListed 15 = .ok (.ldc_w 278, 3) := by decide +kernel
theorem dX3_requireListed_18 : decode cX3_requireListed 18 = .ok (.invokespecial 280, 3) := by decide +kernel
theorem dX3_requireListed_21 : decode cX3_requireListed 21 = .ok (.athrow, 1) := by decide +kernel
theorem dX3_requireListed_22 : decode cX3_requireListed 22 = .ok (.return_, 1) := by decide +kernel
set_option maxRecDepth 20000 in
theorem ggX3_requirePresent_X2_isPresent : GoodIn wsX3_requirePresent wsX2_isPresent := goodIn_r _ [8, 9, 17, 18] (by decide +kernel) (by decide +kernel)
set_option maxRecDepth 20000 in
theorem gX3_requirePresent_X2_isPresent : GoodIn wsX3_requirePresent (wsV RX3 93 RX2 yX2_isPresent wsX2_isPresent) := goodIn_app (goodIn_of _ (by decide +kernel)) ggX3_requirePresent_X2_isPresent
theorem dX3_requirePresent_0 : decode cX3_requirePresent 0 = .ok (.aload_n 0, 1) := by decide +kernel
theorem dX3_requirePresent_1 : decode cX3_requirePresent 1 = .ok (.getfield 19, 3) := by decide +kernel
theorem dX3_requirePresent_4 : decode cX3_requirePresent 4 = .ok (.iload_n 1, 1) := by decide +kernel
theorem dX3_requirePresent_5 : decode cX3_requirePresent 5 = .ok (.invokevirtual 93, 3) := by decide +kernel
theorem dX3_requirePresent_8 : decode cX3_requirePresent 8 = .ok (.ifCond .ne 14, 3) := by decide +kernel
theorem dX3_requirePresent_11 : decode cX3_requirePresent 11 = .ok (.new 276, 3) := by decide +kernel
theorem dX3_requirePresent_14 : decode cX3_requirePresent 14 = .ok (.dup, 1) := by decide +kernel
theorem dX3_requirePresent_15 : decode cX3_requirePresent 15 = .ok (.ldc_w 281, 3) := by decide +kernel
theorem dX3_requirePresent_18 : decode cX3_requirePresent 18 = .ok (.invokespecial 280, 3) := by decide +kernel
theorem dX3_requirePresent_21 : decode cX3_requirePresent 21 = .ok (.athrow, 1) := by decide +kernel
