theorem dX3_requirePresent_22 : decode cX3_requirePresent 22 = .ok (.return_, 1) := by decide +kernel
set_option maxRecDepth 20000 in
theorem ggX3_requireNotCrashed_X1_hasCrashed : GoodIn wsX3_requireNotCrashed wsX1_hasCrashed := goodIn_r _ [8, 9, 17, 18, 19, 20] (by decide +kernel) (by decide +kernel)
set_option maxRecDepth 20000 in
theorem gX3_requireNotCrashed_X1_hasCrashed : GoodIn wsX3_requireNotCrashed (wsV RX3 164 RX1 yX1_hasCrashed wsX1_hasCrashed) := goodIn_app (goodIn_of _ (by decide +kernel)) ggX3_requireNotCrashed_X1_hasCrashed
theorem dX3_requireNotCrashed_0 : decode cX3_requireNotCrashed 0 = .ok (.aload_n 0, 1) := by decide +kernel
theorem dX3_requireNotCrashed_1 : decode cX3_requireNotCrashed 1 = .ok (.getfield 26, 3) := by decide +kernel
theorem dX3_requireNotCrashed_4 : decode cX3_requireNotCrashed 4 = .ok (.iload_n 1, 1) := by decide +kernel
theorem dX3_requireNotCrashed_5 : decode cX3_requireNotCrashed 5 = .ok (.invokevirtual 164, 3) := by decide +kernel
theorem dX3_requireNotCrashed_8 : decode cX3_requireNotCrashed 8 = .ok (.ifCond .eq 14, 3) := by decide +kernel
theorem dX3_requireNotCrashed_11 : decode cX3_requireNotCrashed 11 = .ok (.new 46, 3) := by decide +kernel
theorem dX3_requireNotCrashed_14 : decode cX3_requireNotCrashed 14 = .ok (.dup, 1) := by decide +kernel
theorem dX3_requireNotCrashed_15 : decode cX3_requireNotCrashed 15 = .ok (.ldc_w 283, 3) := by decide +kernel
theorem dX3_requireNotCrashed_18 : decode cX3_requireNotCrashed 18 = .ok (.invokespecial 50, 3) := by decide +kernel
theorem dX3_requireNotCrashed_21 : decode cX3_requireNotCrashed 21 = .ok (.athrow, 1) := by decide +kernel
theorem dX3_requireNotCrashed_22 : decode cX3_requireNotCrashed 22 = .ok (.return_, 1) := by decide +kernel
set_option maxRecDepth 20000 in
theorem ggX3_requireAtWork_X3_requireNotCrashed : GoodIn wsX3_requireAtWork wsX3_requireNotCrashed := goodIn_ca (goodIn_r _ [8, 1, 2, 3, 9, 10, 11, 12, 13, 14, 22, 23, 24, 25, 26, 27, 28, 29, 30, 31, 32] (by decide +kernel) (by decide +kernel)) (goodIn_sub (fun _ h => List.mem_cons_of_mem _ (List.mem_append_right _ h)) (by decide +kernel))
set_option maxRecDepth 20000 in
theorem gX3_requireAtWork_X3_requireNotCrashed : GoodIn wsX3_requireAtWork (wsV RX3 147 RX3 yX3_requireNotCrashed wsX3_requireNotCrashed) := goodIn_app (goodIn_of _ (by decide +kernel)) ggX3_requireAtWork_X3_requireNotCrashed
set_option maxRecDepth 20000 in
theorem ggX3_requireAtWork_X1_owner : GoodIn wsX3_requireAtWork wsX1_owner := goodIn_r _ [18, 19, 20, 21, 29, 30, 31, 32] (by decide +kernel) (by decide +kernel)
set_option maxRecDepth 20000 in
theorem gX3_requireAtWork_X1_owner : GoodIn wsX3_requireAtWork (wsV RX3 150 RX1 yX1_owner wsX1_owner) := goodIn_app (goodIn_of _ (by decide +kernel)) ggX3_requireAtWork_X1_owner
theorem dX3_requireAtWork_0 : decode cX3_requireAtWork 0 = .ok (.aload_n 0, 1) := by decide +kernel
theorem dX3_requireAtWork_1 : decode cX3_requireAtWork 1 = .ok (.iload_n 1, 1) := by decide +kernel
theorem dX3_requireAtWork_2 : decode cX3_requireAtWork 2 = .ok (.invokevirtual 147, 3) := by decide +kernel
theorem dX3_requireAtWork_5 : decode cX3_requireAtWork 5 = .ok (.aload_n 0, 1) := by decide +kernel
theorem dX3_requireAtWork_6 : decode cX3_requireAtWork 6 = .ok (.getfield 26, 3) := by decide +kernel
theorem dX3_requireAtWork_9 : decode cX3_requireAtWork 9 = .ok (.invokevirtual 150, 3) := by decide +kernel
theorem dX3_requireAtWork_12 : decode cX3_requireAtWork 12 = .ok (.iload_n 1, 1) := by decide +kernel
theorem dX3_requireAtWork_13 : decode cX3_requireAtWork 13 = .ok (.if_icmp .eq 14, 3) := by decide +kernel
theorem dX3_requireAtWork_16 : decode cX3_requireAtWork 16 = .ok (.new 46, 3) := by decide +kernel
theorem dX3_requireAtWork_19 : decode cX3_requireAtWork 19 = .ok (.dup, 1) := by decide +kernel
theorem dX3_requireAtWork_20 : decode cX3_requireAtWork 20 = .ok (.ldc_w 285, 3) := by decide +kernel
theorem dX3_requireAtWork_23 : decode cX3_requireAtWork 23 = .ok (.invokespecial 50, 3) := by decide +kernel
theorem dX3_requireAtWork_26 : decode cX3_requireAtWork 26 = .ok (.athrow, 1) := by decide +kernel
theorem dX3_requireAtWork_27 : decode cX3_requireAtWork 27 = .ok (.return_, 1) := by decide +kernel
set_option maxRecDepth 20000 in
theorem ggX3_requireActive_X3_isActive : GoodIn wsX3_requireActive wsX3_isActive := goodIn_r _ [7, 8, 9, 10, 11, 12, 13, 14, 15] (by decide +kernel) (by decide +kernel)
set_option maxRecDepth 20000 in
theorem gX3_requireActive_X3_isActive : GoodIn wsX3_requireActive (wsV RX3 61 RX3 yX3_isActive wsX3_isActive) := goodIn_app (goodIn_of _ (by decide +kernel)) ggX3_requireActive_X3_isActive
theorem dX3_requireActive_0 : decode cX3_requireActive 0 = .ok (.aload_n 0, 1) := by decide +kernel
theorem dX3_requireActive_1 : decode cX3_requireActive 1 = .ok (.invokevirtual 61, 3) := by decide +kernel
theorem dX3_requireActive_4 : decode cX3_requireActive 4 = .ok (.ifCond .ne 14, 3) := by decide +kernel
theorem dX3_requireActive_7 : decode cX3_requireActive 7 = .ok (.new 46, 3) := by decide +kernel
theorem dX3_requireActive_10 : decode cX3_requireActive 10 = .ok (.dup, 1) := by decide +kernel
theorem dX3_requireActive_11 : decode cX3_requireActive 11 = .ok (.ldc_w 287, 3) := by decide +kernel
theorem dX3_requireActive_14 : decode cX3_requireActive 14 = .ok (.invokespecial 50, 3) := by decide +kernel
theorem dX3_requireActive_17 : decode cX3_requireActive 17 = .ok (.athrow, 1) := by decide +kernel
theorem dX3_requireActive_18 : decode cX3_requireActive 18 = .ok (.return_, 1) := by decide +kernel
set_option maxRecDepth 20000 in
theorem ggX3_requireUndoableDone_X0_hasDrifted : GoodIn wsX3_requireUndoableDone wsX0_hasDrifted := goodIn_r _ [9, 10, 11, 12, 13, 8, 14, 15, 16, 17, 18, 26, 27, 28, 29, 30] (by decide +kernel) (by decide +kernel)
set_option maxRecDepth 20000 in
theorem gX3_requireUndoableDone_X0_hasDrifted : GoodIn wsX3_requireUndoableDone (wsV RX3 291 RX0 yX0_hasDrifted wsX0_hasDrifted) := goodIn_app (goodIn_of _ (by decide +kernel)) ggX3_requireUndoableDone_X0_hasDrifted
theorem dX3_requireUndoableDone_0 : decode cX3_requireUndoableDone 0 = .ok (.aload_n 0, 1) := by decide +kernel
theorem dX3_requireUndoableDone_1 : decode cX3_requireUndoableDone 1 = .ok (.getfield 81, 3) := by decide +kernel
theorem dX3_requireUndoableDone_4 : decode cX3_requireUndoableDone 4 = .ok (.ifCond .ne 14, 3) := by decide +kernel
theorem dX3_requireUndoableDone_7 : decode cX3_requireUndoableDone 7 = .ok (.new 46, 3) := by decide +kernel
theorem dX3_requireUndoableDone_10 : decode cX3_requireUndoableDone 10 = .ok (.dup, 1) := by decide +kernel
theorem dX3_requireUndoableDone_11 : decode cX3_requireUndoableDone 11 = .ok (.ldc_w 289, 3) := by decide +kernel
theorem dX3_requireUndoableDone_14 : decode cX3_requireUndoableDone 14 = .ok (.invokespecial 50, 3) := by decide +kernel
theorem dX3_requireUndoableDone_17 : decode cX3_requireUndoableDone 17 = .ok (.athrow, 1) := by decide +kernel
theorem dX3_requireUndoableDone_18 : decode cX3_requireUndoableDone 18 = .ok (.aload_n 0, 1) := by decide +kernel
theorem dX3_requireUndoableDone_19 : decode cX3_requireUndoableDone 19 = .ok (.getfield 10, 3) := by decide +kernel
theorem dX3_requireUndoableDone_22 : decode cX3_requireUndoableDone 22 = .ok (.aload_n 0, 1) := by decide +kernel
theorem dX3_requireUndoableDone_23 : decode cX3_requireUndoableDone 23 = .ok (.getfield 81, 3) := by decide +kernel
theorem dX3_requireUndoableDone_26 : decode cX3_requireUndoableDone 26 = .ok (.invokevirtual 291, 3) := by decide +kernel
theorem dX3_requireUndoableDone_29 : decode cX3_requireUndoableDone 29 = .ok (.ifCond .eq 14, 3) := by decide +kernel
theorem dX3_requireUndoableDone_32 : decode cX3_requireUndoableDone 32 = .ok (.new 46, 3) := by decide +kernel
theorem dX3_requireUndoableDone_35 : decode cX3_requireUndoableDone 35 = .ok (.dup, 1) := by decide +kernel
theorem dX3_requireUndoableDone_36 : decode cX3_requireUndoableDone 36 = .ok (.ldc_w 294, 3) := by decide +kernel
theorem dX3_requireUndoableDone_39 : decode cX3_requireUndoableDone 39 = .ok (.invokespecial 50, 3) := by decide +kernel
theorem dX3_requireUndoableDone_42 : decode cX3_requireUndoableDone 42 = .ok (.athrow, 1) := by decide +kernel
theorem dX3_requireUndoableDone_43 : decode cX3_requireUndoableDone 43 = .ok (.return_, 1) := by decide +kernel
theorem dJ9_min_7cf53_0 : decode cJ9_min_7cf53 0 = .ok (.iload_n 0, 1) := by decide +kernel
theorem dJ9_min_7cf53_1 : decode cJ9_min_7cf53 1 = .ok (.iload_n 1, 1) := by decide +kernel
theorem dJ9_min_7cf53_2 : decode cJ9_min_7cf53 2 = .ok (.if_icmp .gt 7, 3) := by decide +kernel
theorem dJ9_min_7cf53_5 : decode cJ9_min_7cf53 5 = .ok (.iload_n 0, 1) := by decide +kernel
theorem dJ9_min_7cf53_6 : decode cJ9_min_7cf53 6 = .ok (.goto 4, 3) := by decide +kernel
theorem dJ9_min_7cf53_9 : decode cJ9_min_7cf53 9 = .ok (.iload_n 1, 1) := by decide +kernel
theorem dJ9_min_7cf53_10 : decode cJ9_min_7cf53 10 = .ok (.ireturn, 1) := by decide +kernel
set_option maxRecDepth 20000 in
theorem ggL_adds_X3_addChange : GoodIn wsL_adds wsX3_addChange := goodIn_ca (goodIn_ca (goodIn_r _ [9, 10, 11, 12, 13, 14, 8, 15, 16, 17, 18, 19, 20, 21, 22, 23, 24, 25, 26, 27, 28, 29, 30, 31, 32, 33, 34, 35, 36, 37, 38, 39, 40, 41, 42, 43, 44, 45, 46, 47, 48, 49, 50, 51, 52, 53, 54, 55] (by decide +kernel) (by decide +kernel)) (goodIn_sub (fun _ h => List.mem_cons_of_mem _ (List.mem_append_left _ (List.mem_append_right _ h))) (by decide +kernel))) (goodIn_sub (fun _ h => List.mem_cons_of_mem _ (List.mem_append_right _ h)) (by decide +kernel))
set_option maxRecDepth 20000 in
theorem gL_adds_X3_addChange : GoodIn wsL_adds (wsV RL 7 RX3 yX3_addChange wsX3_addChange) := goodIn_app (goodIn_of _ (by decide +kernel)) ggL_adds_X3_addChange
theorem dL_adds_0 : decode cL_adds 0 = .ok (.aload_n 0, 1) := by decide +kernel
theorem dL_adds_1 : decode cL_adds 1 = .ok (.iload_n 1, 1) := by decide +kernel
theorem dL_adds_2 : decode cL_adds 2 = .ok (.iload_n 2, 1) := by decide +kernel
theorem dL_adds_3 : decode cL_adds 3 = .ok (.iload_n 3, 1) := by decide +kernel
theorem dL_adds_4 : decode cL_adds 4 = .ok (.invokevirtual 7, 3) := by decide +kernel
theorem dL_adds_7 : decode cL_adds 7 = .ok (.ireturn, 1) := by decide +kernel
theorem dL_adds_8 : decode cL_adds 8 = .ok (.astore 4, 2) := by decide +kernel
theorem dL_adds_10 : decode cL_adds 10 = .ok (.ldc 15, 2) := by decide +kernel
theorem dL_adds_12 : decode cL_adds 12 = .ok (.ireturn, 1) := by decide +kernel
theorem dL_adds_13 : decode cL_adds 13 = .ok (.astore 4, 2) := by decide +kernel
theorem dL_adds_15 : decode cL_adds 15 = .ok (.ldc 18, 2) := by decide +kernel
theorem dL_adds_17 : decode cL_adds 17 = .ok (.ireturn, 1) := by decide +kernel
set_option maxRecDepth 20000 in
theorem ggL_edits_X3_edit : GoodIn wsL_edits wsX3_edit := goodIn_ca (goodIn_ca (goodIn_ca (goodIn_r _ [11, 12, 13, 14, 15, 16, 10, 17, 18, 19, 20, 21, 22, 23, 24, 25, 26, 27, 28, 29, 30, 31, 32, 33, 34, 35, 36, 37, 38, 39, 40, 41, 42, 43, 44, 45, 46, 47, 48, 49, 50, 51, 52, 53, 54, 55, 56, 57, 58, 59, 60, 61, 62, 63, 64, 65, 66, 67, 68, 69, 70, 71, 72, 73, 74] (by decide +kernel) (by decide +kernel)) (goodIn_sub (fun _ h => List.mem_cons_of_mem _ (List.mem_append_left _ (List.mem_append_left _ (List.mem_append_right _ h)))) (by decide +kernel))) (goodIn_sub (fun _ h => List.mem_cons_of_mem _ (List.mem_append_left _ (List.mem_append_right _ h))) (by decide +kernel))) (goodIn_sub (fun _ h => List.mem_cons_of_mem _ (List.mem_append_right _ h)) (by decide +kernel))
set_option maxRecDepth 20000 in
theorem gL_edits_X3_edit : GoodIn wsL_edits (wsV RL 19 RX3 yX3_edit wsX3_edit) := goodIn_app (goodIn_of _ (by decide +kernel)) ggL_edits_X3_edit
theorem dL_edits_0 : decode cL_edits 0 = .ok (.aload_n 0, 1) := by decide +kernel
theorem dL_edits_1 : decode cL_edits 1 = .ok (.iload_n 1, 1) := by decide +kernel
theorem dL_edits_2 : decode cL_edits 2 = .ok (.iload_n 2, 1) := by decide +kernel
theorem dL_edits_3 : decode cL_edits 3 = .ok (.iload_n 3, 1) := by decide +kernel
theorem dL_edits_4 : decode cL_edits 4 = .ok (.iload 4, 2) := by decide +kernel
theorem dL_edits_6 : decode cL_edits 6 = .ok (.invokevirtual 19, 3) := by decide +kernel
theorem dL_edits_9 : decode cL_edits 9 = .ok (.ireturn, 1) := by decide +kernel
theorem dL_edits_10 : decode cL_edits 10 = .ok (.astore 5, 2) := by decide +kernel
theorem dL_edits_12 : decode cL_edits 12 = .ok (.ldc 15, 2) := by decide +kernel
theorem dL_edits_14 : decode cL_edits 14 = .ok (.ireturn, 1) := by decide +kernel
theorem dL_edits_15 : decode cL_edits 15 = .ok (.astore 5, 2) := by decide +kernel
theorem dL_edits_17 : decode cL_edits 17 = .ok (.ldc 25, 2) := by decide +kernel
theorem dL_edits_19 : decode cL_edits 19 = .ok (.ireturn, 1) := by decide +kernel
theorem dL_edits_20 : decode cL_edits 20 = .ok (.astore 5, 2) := by decide +kernel
theorem dL_edits_22 : decode cL_edits 22 = .ok (.ldc 18, 2) := by decide +kernel
theorem dL_edits_24 : decode cL_edits 24 = .ok (.ireturn, 1) := by decide +kernel
set_option maxRecDepth 20000 in
theorem ggL_sum_X3_checksum : GoodIn wsL_sum wsX3_checksum := goodIn_ca (goodIn_r _ [7, 8, 9, 10, 11, 6, 12, 13, 14, 15, 16, 17, 18, 19, 20, 21, 22, 23, 24, 25, 26, 27, 28, 29, 30, 31, 32, 33, 34, 35, 36, 37, 38, 39, 40] (by decide +kernel) (by decide +kernel)) (goodIn_sub (fun _ h => List.mem_cons_of_mem _ (List.mem_append_right _ h)) (by decide +kernel))
set_option maxRecDepth 20000 in
theorem gL_sum_X3_checksum : GoodIn wsL_sum (wsV RL 26 RX3 yX3_checksum wsX3_checksum) := goodIn_app (goodIn_of _ (by decide +kernel)) ggL_sum_X3_checksum
theorem dL_sum_0 : decode cL_sum 0 = .ok (.aload_n 0, 1) := by decide +kernel
theorem dL_sum_1 : decode cL_sum 1 = .ok (.iload_n 1, 1) := by decide +kernel
theorem dL_sum_2 : decode cL_sum 2 = .ok (.invokevirtual 26, 3) := by decide +kernel
theorem dL_sum_5 : decode cL_sum 5 = .ok (.ireturn, 1) := by decide +kernel
theorem dL_sum_6 : decode cL_sum 6 = .ok (.astore_n 2, 1) := by decide +kernel
theorem dL_sum_7 : decode cL_sum 7 = .ok (.ldc 25, 2) := by decide +kernel
theorem dL_sum_9 : decode cL_sum 9 = .ok (.ireturn, 1) := by decide +kernel
set_option maxRecDepth 20000 in
theorem ggL_state_X3_state : GoodIn wsL_state wsX3_state := goodIn_ca (goodIn_r _ [7, 8, 9, 10, 11, 12, 6, 13, 14, 15, 16, 17, 18, 19, 20, 21, 22, 23, 24, 25, 26, 27, 28, 29, 30, 31, 32, 33, 34, 35, 36, 37, 38] (by decide +kernel) (by decide +kernel)) (goodIn_sub (fun _ h => List.mem_cons_of_mem _ (List.mem_append_right _ h)) (by decide +kernel))
set_option maxRecDepth 20000 in
theorem gL_state_X3_state : GoodIn wsL_state (wsV RL 30 RX3 yX3_state wsX3_state) := goodIn_app (goodIn_of _ (by decide +kernel)) ggL_state_X3_state
theorem dL_state_0 : decode cL_state 0 = .ok (.aload_n 0, 1) := by decide +kernel
theorem dL_state_1 : decode cL_state 1 = .ok (.iload_n 1, 1) := by decide +kernel
theorem dL_state_2 : decode cL_state 2 = .ok (.invokevirtual 30, 3) := by decide +kernel
theorem dL_state_5 : decode cL_state 5 = .ok (.ireturn, 1) := by decide +kernel
theorem dL_state_6 : decode cL_state 6 = .ok (.astore_n 2, 1) := by decide +kernel
theorem dL_state_7 : decode cL_state 7 = .ok (.ldc 25, 2) := by decide +kernel
theorem dL_state_9 : decode cL_state 9 = .ok (.ireturn, 1) := by decide +kernel
set_option maxRecDepth 20000 in
theorem ggL_inserts_X3_insert : GoodIn wsL_inserts wsX3_insert := goodIn_ca (goodIn_ca (goodIn_r _ [9, 10, 11, 12, 13, 14, 8, 15, 16, 17, 18, 19, 20, 21, 22, 23, 24, 25, 26, 27, 28, 29, 30, 31, 32, 33, 34, 35, 36, 37, 38, 39, 40, 41, 42, 43, 44, 45, 46, 47, 48, 49, 50, 51, 52, 53, 54, 55, 56, 57, 58, 59, 60, 61, 62, 63, 64] (by decide +kernel) (by decide +kernel)) (goodIn_sub (fun _ h => List.mem_cons_of_mem _ (List.mem_append_left _ (List.mem_append_right _ h))) (by decide +kernel))) (goodIn_sub (fun _ h => List.mem_cons_of_mem _ (List.mem_append_right _ h)) (by decide +kernel))
set_option maxRecDepth 20000 in
theorem gL_inserts_X3_insert : GoodIn wsL_inserts (wsV RL 33 RX3 yX3_insert wsX3_insert) := goodIn_app (goodIn_of _ (by decide +kernel)) ggL_inserts_X3_insert
theorem dL_inserts_0 : decode cL_inserts 0 = .ok (.aload_n 0, 1) := by decide +kernel
theorem dL_inserts_1 : decode cL_inserts 1 = .ok (.iload_n 1, 1) := by decide +kernel
theorem dL_inserts_2 : decode cL_inserts 2 = .ok (.iload_n 2, 1) := by decide +kernel
theorem dL_inserts_3 : decode cL_inserts 3 = .ok (.iload_n 3, 1) := by decide +kernel
theorem dL_inserts_4 : decode cL_inserts 4 = .ok (.iload 4, 2) := by decide +kernel
theorem dL_inserts_6 : decode cL_inserts 6 = .ok (.invokevirtual 33, 3) := by decide +kernel
theorem dL_inserts_9 : decode cL_inserts 9 = .ok (.ireturn, 1) := by decide +kernel
theorem dL_inserts_10 : decode cL_inserts 10 = .ok (.astore 5, 2) := by decide +kernel
theorem dL_inserts_12 : decode cL_inserts 12 = .ok (.ldc 15, 2) := by decide +kernel
theorem dL_inserts_14 : decode cL_inserts 14 = .ok (.ireturn, 1) := by decide +kernel
theorem dL_inserts_15 : decode cL_inserts 15 = .ok (.astore 5, 2) := by decide +kernel
theorem dL_inserts_17 : decode cL_inserts 17 = .ok (.ldc 18, 2) := by decide +kernel
theorem dL_inserts_19 : decode cL_inserts 19 = .ok (.ireturn, 1) := by decide +kernel
set_option maxRecDepth 20000 in
theorem ggL_writes_X3_write : GoodIn wsL_writes wsX3_write := goodIn_ca (goodIn_ca (goodIn_r _ [9, 10, 11, 12, 8, 13, 14, 15, 16, 17, 18, 19, 20, 21, 22, 23, 24, 25, 26, 27, 28, 29, 30, 31, 32, 33, 34, 35, 36, 37, 38, 39, 40, 41, 42, 43, 44, 45, 46, 47, 48, 49, 50, 51, 52, 53, 54, 55, 56, 57, 58, 59] (by decide +kernel) (by decide +kernel)) (goodIn_sub (fun _ h => List.mem_cons_of_mem _ (List.mem_append_left _ (List.mem_append_right _ h))) (by decide +kernel))) (goodIn_sub (fun _ h => List.mem_cons_of_mem _ (List.mem_append_right _ h)) (by decide +kernel))
set_option maxRecDepth 20000 in
theorem gL_writes_X3_write : GoodIn wsL_writes (wsV RL 36 RX3 yX3_write wsX3_write) := goodIn_app (goodIn_of _ (by decide +kernel)) ggL_writes_X3_write
theorem dL_writes_0 : decode cL_writes 0 = .ok (.aload_n 0, 1) := by decide +kernel
theorem dL_writes_1 : decode cL_writes 1 = .ok (.iload_n 1, 1) := by decide +kernel
theorem dL_writes_2 : decode cL_writes 2 = .ok (.iload_n 2, 1) := by decide +kernel
theorem dL_writes_3 : decode cL_writes 3 = .ok (.iload_n 3, 1) := by decide +kernel
theorem dL_writes_4 : decode cL_writes 4 = .ok (.invokevirtual 36, 3) := by decide +kernel
theorem dL_writes_7 : decode cL_writes 7 = .ok (.ireturn, 1) := by decide +kernel
theorem dL_writes_8 : decode cL_writes 8 = .ok (.astore 4, 2) := by decide +kernel
theorem dL_writes_10 : decode cL_writes 10 = .ok (.ldc 15, 2) := by decide +kernel
theorem dL_writes_12 : decode cL_writes 12 = .ok (.ireturn, 1) := by decide +kernel
theorem dL_writes_13 : decode cL_writes 13 = .ok (.astore 4, 2) := by decide +kernel
theorem dL_writes_15 : decode cL_writes 15 = .ok (.ldc 25, 2) := by decide +kernel
theorem dL_writes_17 : decode cL_writes 17 = .ok (.ireturn, 1) := by decide +kernel
set_option maxRecDepth 20000 in
theorem ggL_deletes_X3_delete : GoodIn wsL_deletes wsX3_delete := goodIn_ca (goodIn_ca (goodIn_r _ [9, 10, 11, 12, 8, 13, 14, 15, 16, 17, 18, 19, 20, 21, 22, 23, 24, 25, 26, 27, 28, 29, 30, 31, 32, 33, 34, 35, 36, 37, 38, 39, 40, 41, 42, 43, 44] (by decide +kernel) (by decide +kernel)) (goodIn_sub (fun _ h => List.mem_cons_of_mem _ (List.mem_append_left _ (List.mem_append_right _ h))) (by decide +kernel))) (goodIn_sub (fun _ h => List.mem_cons_of_mem _ (List.mem_append_right _ h)) (by decide +kernel))
set_option maxRecDepth 20000 in
theorem gL_deletes_X3_delete : GoodIn wsL_deletes (wsV RL 39 RX3 yX3_delete wsX3_delete) := goodIn_app (goodIn_of _ (by decide +kernel)) ggL_deletes_X3_delete
theorem dL_deletes_0 : decode cL_deletes 0 = .ok (.aload_n 0, 1) := by decide +kernel
theorem dL_deletes_1 : decode cL_deletes 1 = .ok (.iload_n 1, 1) := by decide +kernel
theorem dL_deletes_2 : decode cL_deletes 2 = .ok (.invokevirtual 39, 3) := by decide +kernel
theorem dL_deletes_5 : decode cL_deletes 5 = .ok (.ireturn, 1) := by decide +kernel
theorem dL_deletes_6 : decode cL_deletes 6 = .ok (.astore_n 2, 1) := by decide +kernel
theorem dL_deletes_7 : decode cL_deletes 7 = .ok (.ldc 15, 2) := by decide +kernel
theorem dL_deletes_9 : decode cL_deletes 9 = .ok (.ireturn, 1) := by decide +kernel
theorem dL_deletes_10 : decode cL_deletes 10 = .ok (.astore_n 2, 1) := by decide +kernel
theorem dL_deletes_11 : decode cL_deletes 11 = .ok (.ldc 25, 2) := by decide +kernel
theorem dL_deletes_13 : decode cL_deletes 13 = .ok (.ireturn, 1) := by decide +kernel
set_option maxRecDepth 20000 in
theorem ggL_value_X3_value : GoodIn wsL_value wsX3_value := goodIn_ca (goodIn_ca (goodIn_r _ [9, 10, 11, 12, 8, 13, 14, 15, 16, 17, 18, 19, 20, 21, 22, 23, 24, 25, 26, 27, 28, 29, 30, 31, 32, 33, 34, 35, 36, 37, 38, 39, 40, 41, 42, 43, 44, 45, 46, 47] (by decide +kernel) (by decide +kernel)) (goodIn_sub (fun _ h => List.mem_cons_of_mem _ (List.mem_append_left _ (List.mem_append_right _ h))) (by decide +kernel))) (goodIn_sub (fun _ h => List.mem_cons_of_mem _ (List.mem_append_right _ h)) (by decide +kernel))
set_option maxRecDepth 20000 in
theorem gL_value_X3_value : GoodIn wsL_value (wsV RL 42 RX3 yX3_value wsX3_value) := goodIn_app (goodIn_of _ (by decide +kernel)) ggL_value_X3_value
theorem dL_value_0 : decode cL_value 0 = .ok (.aload_n 0, 1) := by decide +kernel
theorem dL_value_1 : decode cL_value 1 = .ok (.iload_n 1, 1) := by decide +kernel
theorem dL_value_2 : decode cL_value 2 = .ok (.iload_n 2, 1) := by decide +kernel
theorem dL_value_3 : decode cL_value 3 = .ok (.invokevirtual 42, 3) := by decide +kernel
theorem dL_value_6 : decode cL_value 6 = .ok (.ireturn, 1) := by decide +kernel
theorem dL_value_7 : decode cL_value 7 = .ok (.astore_n 3, 1) := by decide +kernel
theorem dL_value_8 : decode cL_value 8 = .ok (.ldc 15, 2) := by decide +kernel
theorem dL_value_10 : decode cL_value 10 = .ok (.ireturn, 1) := by decide +kernel
theorem dL_value_11 : decode cL_value 11 = .ok (.astore_n 3, 1) := by decide +kernel
theorem dL_value_12 : decode cL_value 12 = .ok (.ldc 25, 2) := by decide +kernel
theorem dL_value_14 : decode cL_value 14 = .ok (.ireturn, 1) := by decide +kernel
set_option maxRecDepth 20000 in
theorem ggL_version_X3_version : GoodIn wsL_version wsX3_version := goodIn_ca (goodIn_r _ [7, 8, 9, 10, 6, 11, 12, 13, 14, 15, 16, 17, 18, 19, 20, 21, 22, 23, 24, 25, 26, 27, 28] (by decide +kernel) (by decide +kernel)) (goodIn_sub (fun _ h => List.mem_cons_of_mem _ (List.mem_append_right _ h)) (by decide +kernel))
set_option maxRecDepth 20000 in
theorem gL_version_X3_version : GoodIn wsL_version (wsV RL 46 RX3 yX3_version wsX3_version) := goodIn_app (goodIn_of _ (by decide +kernel)) ggL_version_X3_version
theorem dL_version_0 : decode cL_version 0 = .ok (.aload_n 0, 1) := by decide +kernel
theorem dL_version_1 : decode cL_version 1 = .ok (.iload_n 1, 1) := by decide +kernel
theorem dL_version_2 : decode cL_version 2 = .ok (.invokevirtual 46, 3) := by decide +kernel
theorem dL_version_5 : decode cL_version 5 = .ok (.ireturn, 1) := by decide +kernel
theorem dL_version_6 : decode cL_version 6 = .ok (.astore_n 2, 1) := by decide +kernel
theorem dL_version_7 : decode cL_version 7 = .ok (.ldc 15, 2) := by decide +kernel
theorem dL_version_9 : decode cL_version 9 = .ok (.ireturn, 1) := by decide +kernel
set_option maxRecDepth 20000 in
theorem ggL_rowsAt_X3_rowsAt : GoodIn wsL_rowsAt wsX3_rowsAt := goodIn_ca (goodIn_r _ [7, 8, 9, 10, 11, 12, 13, 14, 15, 16, 17, 18, 19, 20, 21, 22, 23, 24, 25] (by decide +kernel) (by decide +kernel)) (goodIn_sub (fun _ h => List.mem_cons_of_mem _ (List.mem_append_right _ h)) (by decide +kernel))
set_option maxRecDepth 20000 in
theorem gL_rowsAt_X3_rowsAt : GoodIn wsL_rowsAt (wsV RL 49 RX3 yX3_rowsAt wsX3_rowsAt) := goodIn_app (goodIn_of _ (by decide +kernel)) ggL_rowsAt_X3_rowsAt
theorem dL_rowsAt_0 : decode cL_rowsAt 0 = .ok (.aload_n 0, 1) := by decide +kernel
theorem dL_rowsAt_1 : decode cL_rowsAt 1 = .ok (.iload_n 1, 1) := by decide +kernel
theorem dL_rowsAt_2 : decode cL_rowsAt 2 = .ok (.invokevirtual 49, 3) := by decide +kernel
theorem dL_rowsAt_5 : decode cL_rowsAt 5 = .ok (.ireturn, 1) := by decide +kernel
theorem dL_rowsAt_6 : decode cL_rowsAt 6 = .ok (.astore_n 2, 1) := by decide +kernel
theorem dL_rowsAt_7 : decode cL_rowsAt 7 = .ok (.ldc 15, 2) := by decide +kernel
theorem dL_rowsAt_9 : decode cL_rowsAt 9 = .ok (.ireturn, 1) := by decide +kernel
set_option maxRecDepth 20000 in
theorem ggL_valueAt_X3_valueAt : GoodIn wsL_valueAt wsX3_valueAt := goodIn_ca (goodIn_ca (goodIn_ca (goodIn_r _ [11, 12, 13, 14, 15, 16, 17, 18, 19, 20, 10, 21, 22, 23, 24, 25, 26, 27, 28, 29, 30, 31, 32, 33, 34, 35, 36, 37, 38, 39, 40, 41, 42, 43, 44, 45, 46, 47, 48, 49, 50, 51, 52, 53, 54, 55, 56, 57, 58, 59, 60, 61, 62, 63, 64, 65, 66, 67, 68, 69, 70, 71, 72, 73, 74, 75, 76, 77, 78, 79, 80, 81, 82, 83, 84, 85, 86, 87, 88, 89, 90, 91, 92, 93, 94, 95, 96, 97] (by decide +kernel) (by decide +kernel)) (goodIn_sub (fun _ h => List.mem_cons_of_mem _ (List.mem_append_left _ (List.mem_append_left _ (List.mem_append_right _ h)))) (by decide +kernel))) (goodIn_sub (fun _ h => List.mem_cons_of_mem _ (List.mem_append_left _ (List.mem_append_right _ h))) (by decide +kernel))) (goodIn_sub (fun _ h => List.mem_cons_of_mem _ (List.mem_append_right _ h)) (by decide +kernel))
set_option maxRecDepth 20000 in
theorem gL_valueAt_X3_valueAt : GoodIn wsL_valueAt (wsV RL 52 RX3 yX3_valueAt wsX3_valueAt) := goodIn_app (goodIn_of _ (by decide +kernel)) ggL_valueAt_X3_valueAt
theorem dL_valueAt_0 : decode cL_valueAt 0 = .ok (.aload_n 0, 1) := by decide +kernel
theorem dL_valueAt_1 : decode cL_valueAt 1 = .ok (.iload_n 1, 1) := by decide +kernel
theorem dL_valueAt_2 : decode cL_valueAt 2 = .ok (.iload_n 2, 1) := by decide +kernel
theorem dL_valueAt_3 : decode cL_valueAt 3 = .ok (.iload_n 3, 1) := by decide +kernel
theorem dL_valueAt_4 : decode cL_valueAt 4 = .ok (.invokevirtual 52, 3) := by decide +kernel
theorem dL_valueAt_7 : decode cL_valueAt 7 = .ok (.ireturn, 1) := by decide +kernel
theorem dL_valueAt_8 : decode cL_valueAt 8 = .ok (.astore 4, 2) := by decide +kernel
theorem dL_valueAt_10 : decode cL_valueAt 10 = .ok (.ldc 15, 2) := by decide +kernel
theorem dL_valueAt_12 : decode cL_valueAt 12 = .ok (.ireturn, 1) := by decide +kernel
theorem dL_valueAt_13 : decode cL_valueAt 13 = .ok (.astore 4, 2) := by decide +kernel
theorem dL_valueAt_15 : decode cL_valueAt 15 = .ok (.ldc 25, 2) := by decide +kernel
theorem dL_valueAt_17 : decode cL_valueAt 17 = .ok (.ireturn, 1) := by decide +kernel
theorem dL_valueAt_18 : decode cL_valueAt 18 = .ok (.astore 4, 2) := by decide +kernel
theorem dL_valueAt_20 : decode cL_valueAt 20 = .ok (.ldc 18, 2) := by decide +kernel
theorem dL_valueAt_22 : decode cL_valueAt 22 = .ok (.ireturn, 1) := by decide +kernel
set_option maxRecDepth 20000 in
theorem ggL_takes_X3_take : GoodIn wsL_takes wsX3_take := goodIn_ca (goodIn_ca (goodIn_r _ [9, 10, 11, 12, 13, 14, 15, 16, 8, 17, 18, 19, 20, 21, 22, 23, 24, 25, 26, 27, 28, 29, 30, 31, 32, 33, 34, 35, 36, 37, 38, 39, 40, 41, 42, 43, 44, 45, 46, 47, 48, 49] (by decide +kernel) (by decide +kernel)) (goodIn_sub (fun _ h => List.mem_cons_of_mem _ (List.mem_append_left _ (List.mem_append_right _ h))) (by decide +kernel))) (goodIn_sub (fun _ h => List.mem_cons_of_mem _ (List.mem_append_right _ h)) (by decide +kernel))
set_option maxRecDepth 20000 in
theorem gL_takes_X3_take : GoodIn wsL_takes (wsV RL 55 RX3 yX3_take wsX3_take) := goodIn_app (goodIn_of _ (by decide +kernel)) ggL_takes_X3_take
theorem dL_takes_0 : decode cL_takes 0 = .ok (.aload_n 0, 1) := by decide +kernel
theorem dL_takes_1 : decode cL_takes 1 = .ok (.iload_n 1, 1) := by decide +kernel
theorem dL_takes_2 : decode cL_takes 2 = .ok (.iload_n 2, 1) := by decide +kernel
theorem dL_takes_3 : decode cL_takes 3 = .ok (.invokevirtual 55, 3) := by decide +kernel
theorem dL_takes_6 : decode cL_takes 6 = .ok (.ireturn, 1) := by decide +kernel
theorem dL_takes_7 : decode cL_takes 7 = .ok (.astore_n 3, 1) := by decide +kernel
theorem dL_takes_8 : decode cL_takes 8 = .ok (.ldc 15, 2) := by decide +kernel
theorem dL_takes_10 : decode cL_takes 10 = .ok (.ireturn, 1) := by decide +kernel
theorem dL_takes_11 : decode cL_takes 11 = .ok (.astore_n 3, 1) := by decide +kernel
theorem dL_takes_12 : decode cL_takes 12 = .ok (.ldc 18, 2) := by decide +kernel
theorem dL_takes_14 : decode cL_takes 14 = .ok (.ireturn, 1) := by decide +kernel
set_option maxRecDepth 20000 in
theorem ggL_gives_X3_giveBack : GoodIn wsL_gives wsX3_giveBack := goodIn_ca (goodIn_ca (goodIn_r _ [9, 10, 11, 12, 8, 13, 14, 15, 16, 17, 18, 19, 20, 21, 22, 23, 24, 25, 26, 27, 28, 29, 30, 31, 32, 33, 34, 35, 36, 37, 38, 39, 40, 41, 42, 43, 44, 45, 46, 47, 48, 49, 50, 51, 52, 53] (by decide +kernel) (by decide +kernel)) (goodIn_sub (fun _ h => List.mem_cons_of_mem _ (List.mem_append_left _ (List.mem_append_right _ h))) (by decide +kernel))) (goodIn_sub (fun _ h => List.mem_cons_of_mem _ (List.mem_append_right _ h)) (by decide +kernel))
set_option maxRecDepth 20000 in
theorem gL_gives_X3_giveBack : GoodIn wsL_gives (wsV RL 58 RX3 yX3_giveBack wsX3_giveBack) := goodIn_app (goodIn_of _ (by decide +kernel)) ggL_gives_X3_giveBack
theorem dL_gives_0 : decode cL_gives 0 = .ok (.aload_n 0, 1) := by decide +kernel
theorem dL_gives_1 : decode cL_gives 1 = .ok (.iload_n 1, 1) := by decide +kernel
theorem dL_gives_2 : decode cL_gives 2 = .ok (.invokevirtual 58, 3) := by decide +kernel
theorem dL_gives_5 : decode cL_gives 5 = .ok (.goto 11, 3) := by decide +kernel
theorem dL_gives_8 : decode cL_gives 8 = .ok (.astore_n 2, 1) := by decide +kernel
theorem dL_gives_9 : decode cL_gives 9 = .ok (.ldc 15, 2) := by decide +kernel
theorem dL_gives_11 : decode cL_gives 11 = .ok (.ireturn, 1) := by decide +kernel
theorem dL_gives_12 : decode cL_gives 12 = .ok (.astore_n 2, 1) := by decide +kernel
theorem dL_gives_13 : decode cL_gives 13 = .ok (.ldc 18, 2) := by decide +kernel
theorem dL_gives_15 : decode cL_gives 15 = .ok (.ireturn, 1) := by decide +kernel
theorem dL_gives_16 : decode cL_gives 16 = .ok (.iconst 0, 1) := by decide +kernel
theorem dL_gives_17 : decode cL_gives 17 = .ok (.ireturn, 1) := by decide +kernel
set_option maxRecDepth 20000 in
theorem ggL_restarts_X3_restart : GoodIn wsL_restarts wsX3_restart := goodIn_ca (goodIn_ca (goodIn_r _ [9, 10, 11, 12, 13, 14, 8, 15, 16, 17, 18, 19, 20, 21, 22, 23, 24, 25, 26, 27, 28, 29, 30, 31, 32, 33, 34, 35, 36, 37, 38, 39, 40, 41, 42, 43, 44, 45] (by decide +kernel) (by decide +kernel)) (goodIn_sub (fun _ h => List.mem_cons_of_mem _ (List.mem_append_left _ (List.mem_append_right _ h))) (by decide +kernel))) (goodIn_sub (fun _ h => List.mem_cons_of_mem _ (List.mem_append_right _ h)) (by decide +kernel))
set_option maxRecDepth 20000 in
theorem gL_restarts_X3_restart : GoodIn wsL_restarts (wsV RL 62 RX3 yX3_restart wsX3_restart) := goodIn_app (goodIn_of _ (by decide +kernel)) ggL_restarts_X3_restart
theorem dL_restarts_0 : decode cL_restarts 0 = .ok (.aload_n 0, 1) := by decide +kernel
theorem dL_restarts_1 : decode cL_restarts 1 = .ok (.iload_n 1, 1) := by decide +kernel
theorem dL_restarts_2 : decode cL_restarts 2 = .ok (.invokevirtual 62, 3) := by decide +kernel
theorem dL_restarts_5 : decode cL_restarts 5 = .ok (.ifCond .eq 7, 3) := by decide +kernel
theorem dL_restarts_8 : decode cL_restarts 8 = .ok (.iconst 1, 1) := by decide +kernel
theorem dL_restarts_9 : decode cL_restarts 9 = .ok (.goto 4, 3) := by decide +kernel
theorem dL_restarts_12 : decode cL_restarts 12 = .ok (.iconst 0, 1) := by decide +kernel
theorem dL_restarts_13 : decode cL_restarts 13 = .ok (.ireturn, 1) := by decide +kernel
theorem dL_restarts_14 : decode cL_restarts 14 = .ok (.astore_n 2, 1) := by decide +kernel
theorem dL_restarts_15 : decode cL_restarts 15 = .ok (.ldc 15, 2) := by decide +kernel
theorem dL_restarts_17 : decode cL_restarts 17 = .ok (.ireturn, 1) := by decide +kernel
theorem dL_restarts_18 : decode cL_restarts 18 = .ok (.astore_n 2, 1) := by decide +kernel
theorem dL_restarts_19 : decode cL_restarts 19 = .ok (.ldc 18, 2) := by decide +kernel
theorem dL_restarts_21 : decode cL_restarts 21 = .ok (.ireturn, 1) := by decide +kernel
set_option maxRecDepth 20000 in
theorem ggL_passes_X3_pass : GoodIn wsL_passes wsX3_pass := goodIn_ca (goodIn_r _ [7, 8, 9, 10, 11, 12, 13, 14, 15, 16, 17, 18, 19, 20, 21, 22, 23, 24, 25, 26, 27] (by decide +kernel) (by decide +kernel)) (goodIn_sub (fun _ h => List.mem_cons_of_mem _ (List.mem_append_right _ h)) (by decide +kernel))
set_option maxRecDepth 20000 in
theorem gL_passes_X3_pass : GoodIn wsL_passes (wsV RL 66 RX3 yX3_pass wsX3_pass) := goodIn_app (goodIn_of _ (by decide +kernel)) ggL_passes_X3_pass
theorem dL_passes_0 : decode cL_passes 0 = .ok (.aload_n 0, 1) := by decide +kernel
theorem dL_passes_1 : decode cL_passes 1 = .ok (.iload_n 1, 1) := by decide +kernel
theorem dL_passes_2 : decode cL_passes 2 = .ok (.invokevirtual 66, 3) := by decide +kernel
theorem dL_passes_5 : decode cL_passes 5 = .ok (.ireturn, 1) := by decide +kernel
theorem dL_passes_6 : decode cL_passes 6 = .ok (.astore_n 2, 1) := by decide +kernel
theorem dL_passes_7 : decode cL_passes 7 = .ok (.ldc 15, 2) := by decide +kernel
theorem dL_passes_9 : decode cL_passes 9 = .ok (.ireturn, 1) := by decide +kernel
set_option maxRecDepth 20000 in
theorem ggL_begins_X3_begin : GoodIn wsL_begins wsX3_begin := goodIn_ca (goodIn_ca (goodIn_r _ [9, 10, 11, 12, 13, 14, 15, 16, 17, 8, 18, 19, 20, 21, 22, 23, 24, 25, 26, 27, 28, 29, 30, 31, 32, 33, 34, 35, 36, 37, 38, 39, 40, 41, 42, 43, 44, 45, 46, 47, 48, 49, 50, 51, 52, 53, 54, 55, 56, 57, 58, 59, 60, 61, 62, 63, 64, 65, 66, 67, 68, 69, 70, 71, 72, 73, 74, 75, 76, 77, 78, 79, 80, 81, 82, 83, 84, 85, 86, 87, 88, 89, 90, 91, 92, 93] (by decide +kernel) (by decide +kernel)) (goodIn_sub (fun _ h => List.mem_cons_of_mem _ (List.mem_append_left _ (List.mem_append_right _ h))) (by decide +kernel))) (goodIn_sub (fun _ h => List.mem_cons_of_mem _ (List.mem_append_right _ h)) (by decide +kernel))
set_option maxRecDepth 20000 in
theorem gL_begins_X3_begin : GoodIn wsL_begins (wsV RL 69 RX3 yX3_begin wsX3_begin) := goodIn_app (goodIn_of _ (by decide +kernel)) ggL_begins_X3_begin
theorem dL_begins_0 : decode cL_begins 0 = .ok (.aload_n 0, 1) := by decide +kernel
theorem dL_begins_1 : decode cL_begins 1 = .ok (.iload_n 1, 1) := by decide +kernel
theorem dL_begins_2 : decode cL_begins 2 = .ok (.invokevirtual 69, 3) := by decide +kernel
theorem dL_begins_5 : decode cL_begins 5 = .ok (.ireturn, 1) := by decide +kernel
theorem dL_begins_6 : decode cL_begins 6 = .ok (.astore_n 2, 1) := by decide +kernel
theorem dL_begins_7 : decode cL_begins 7 = .ok (.ldc 15, 2) := by decide +kernel
theorem dL_begins_9 : decode cL_begins 9 = .ok (.ireturn, 1) := by decide +kernel
theorem dL_begins_10 : decode cL_begins 10 = .ok (.astore_n 2, 1) := by decide +kernel
theorem dL_begins_11 : decode cL_begins 11 = .ok (.ldc 18, 2) := by decide +kernel
theorem dL_begins_13 : decode cL_begins 13 = .ok (.ireturn, 1) := by decide +kernel
set_option maxRecDepth 20000 in
theorem ggL_undoes_X3_undo : GoodIn wsL_undoes wsX3_undo := goodIn_ca (goodIn_ca (goodIn_r _ [9, 10, 11, 12, 13, 14, 15, 16, 8, 17, 18, 19, 20, 21, 22, 23, 24, 25, 26, 27, 28, 29, 30, 31, 32, 33, 34, 35, 36, 37, 38, 39, 40, 41, 42, 43, 44, 45, 46, 47, 48, 49, 50, 51, 52, 53, 54, 55, 56, 57, 58, 59, 60, 61, 62, 63, 64, 65, 66, 67, 68, 69, 70, 71, 72, 73, 74, 75, 76, 77, 78, 79, 80] (by decide +kernel) (by decide +kernel)) (goodIn_sub (fun _ h => List.mem_cons_of_mem _ (List.mem_append_left _ (List.mem_append_right _ h))) (by decide +kernel))) (goodIn_sub (fun _ h => List.mem_cons_of_mem _ (List.mem_append_right _ h)) (by decide +kernel))
set_option maxRecDepth 20000 in
theorem gL_undoes_X3_undo : GoodIn wsL_undoes (wsV RL 72 RX3 yX3_undo wsX3_undo) := goodIn_app (goodIn_of _ (by decide +kernel)) ggL_undoes_X3_undo
theorem dL_undoes_0 : decode cL_undoes 0 = .ok (.aload_n 0, 1) := by decide +kernel
theorem dL_undoes_1 : decode cL_undoes 1 = .ok (.iload_n 1, 1) := by decide +kernel
theorem dL_undoes_2 : decode cL_undoes 2 = .ok (.invokevirtual 72, 3) := by decide +kernel
theorem dL_undoes_5 : decode cL_undoes 5 = .ok (.ireturn, 1) := by decide +kernel
theorem dL_undoes_6 : decode cL_undoes 6 = .ok (.astore_n 2, 1) := by decide +kernel
theorem dL_undoes_7 : decode cL_undoes 7 = .ok (.ldc 15, 2) := by decide +kernel
theorem dL_undoes_9 : decode cL_undoes 9 = .ok (.ireturn, 1) := by decide +kernel
theorem dL_undoes_10 : decode cL_undoes 10 = .ok (.astore_n 2, 1) := by decide +kernel
theorem dL_undoes_11 : decode cL_undoes 11 = .ok (.ldc 18, 2) := by decide +kernel
theorem dL_undoes_13 : decode cL_undoes 13 = .ok (.ireturn, 1) := by decide +kernel
set_option maxRecDepth 20000 in
theorem ggL_steps_X3_step : GoodIn wsL_steps wsX3_step := goodIn_ca (goodIn_ca (goodIn_r _ [9, 10, 11, 12, 13, 14, 15, 16, 17, 8, 18, 19, 20, 21, 22, 23, 24, 25, 26, 27, 28, 29, 30, 31, 32, 33, 34, 35, 36, 37, 38, 39, 40, 41, 42, 43, 44, 45, 46, 47, 48, 49, 50, 51, 52, 53, 54, 55, 56, 57, 58, 59, 60, 61, 62, 63, 64, 65, 66, 67, 68, 69, 70, 71, 72, 73, 74, 75, 76, 77, 78, 79, 80, 81, 82, 83, 84, 85, 86, 87, 88, 89, 90, 91, 92, 93, 94, 95, 96, 97, 98, 99, 100, 101, 102, 103, 104, 105, 106, 107, 108, 109, 110, 111, 112, 113, 114, 115, 116, 117, 118, 119, 120, 121, 122, 123, 124, 125, 126, 127, 128, 129, 130, 131, 132, 133, 134, 135, 136, 137, 138, 139, 140, 141, 142, 143, 144, 145, 146, 147, 148, 149, 150, 151, 152, 153, 154, 155, 156, 157, 158, 159, 160, 161, 162, 163, 164, 165, 166, 167] (by decide +kernel) (by decide +kernel)) (goodIn_sub (fun _ h => List.mem_cons_of_mem _ (List.mem_append_left _ (List.mem_append_right _ h))) (by decide +kernel))) (goodIn_sub (fun _ h => List.mem_cons_of_mem _ (List.mem_append_right _ h)) (by decide +kernel))
set_option maxRecDepth 20000 in
theorem gL_steps_X3_step : GoodIn wsL_steps (wsV RL 75 RX3 yX3_step wsX3_step) := goodIn_app (goodIn_of _ (by decide +kernel)) ggL_steps_X3_step
theorem dL_steps_0 : decode cL_steps 0 = .ok (.aload_n 0, 1) := by decide +kernel
theorem dL_steps_1 : decode cL_steps 1 = .ok (.iload_n 1, 1) := by decide +kernel
theorem dL_steps_2 : decode cL_steps 2 = .ok (.iload_n 2, 1) := by decide +kernel
theorem dL_steps_3 : decode cL_steps 3 = .ok (.iload_n 3, 1) := by decide +kernel
theorem dL_steps_4 : decode cL_steps 4 = .ok (.invokevirtual 75, 3) := by decide +kernel
theorem dL_steps_7 : decode cL_steps 7 = .ok (.ireturn, 1) := by decide +kernel
theorem dL_steps_8 : decode cL_steps 8 = .ok (.astore 4, 2) := by decide +kernel
theorem dL_steps_10 : decode cL_steps 10 = .ok (.ldc 15, 2) := by decide +kernel
theorem dL_steps_12 : decode cL_steps 12 = .ok (.ireturn, 1) := by decide +kernel
theorem dL_steps_13 : decode cL_steps 13 = .ok (.astore 4, 2) := by decide +kernel
theorem dL_steps_15 : decode cL_steps 15 = .ok (.ldc 18, 2) := by decide +kernel
theorem dL_steps_17 : decode cL_steps 17 = .ok (.ireturn, 1) := by decide +kernel
set_option maxRecDepth 20000 in
theorem ggL_cursor_X3_cursor : GoodIn wsL_cursor wsX3_cursor := goodIn_ca (goodIn_r _ [7, 8, 9, 10, 11, 6, 12, 13, 14, 15, 16, 17, 18, 19, 20, 21, 22, 23, 24, 25, 26] (by decide +kernel) (by decide +kernel)) (goodIn_sub (fun _ h => List.mem_cons_of_mem _ (List.mem_append_right _ h)) (by decide +kernel))
set_option maxRecDepth 20000 in
theorem gL_cursor_X3_cursor : GoodIn wsL_cursor (wsV RL 78 RX3 yX3_cursor wsX3_cursor) := goodIn_app (goodIn_of _ (by decide +kernel)) ggL_cursor_X3_cursor
theorem dL_cursor_0 : decode cL_cursor 0 = .ok (.aload_n 0, 1) := by decide +kernel
theorem dL_cursor_1 : decode cL_cursor 1 = .ok (.invokevirtual 78, 3) := by decide +kernel
theorem dL_cursor_4 : decode cL_cursor 4 = .ok (.ireturn, 1) := by decide +kernel
theorem dL_cursor_5 : decode cL_cursor 5 = .ok (.astore_n 1, 1) := by decide +kernel
theorem dL_cursor_6 : decode cL_cursor 6 = .ok (.ldc 18, 2) := by decide +kernel
theorem dL_cursor_8 : decode cL_cursor 8 = .ok (.ireturn, 1) := by decide +kernel
theorem dL_drawn_0 : decode cL_drawn 0 = .ok (.iload_n 1, 1) := by decide +kernel
theorem dL_drawn_1 : decode cL_drawn 1 = .ok (.aload_n 0, 1) := by decide +kernel
theorem dL_drawn_2 : decode cL_drawn 2 = .ok (.arraylength, 1) := by decide +kernel
theorem dL_drawn_3 : decode cL_drawn 3 = .ok (.if_icmp .ge 9, 3) := by decide +kernel
theorem dL_drawn_6 : decode cL_drawn 6 = .ok (.aload_n 0, 1) := by decide +kernel
theorem dL_drawn_7 : decode cL_drawn 7 = .ok (.iload_n 1, 1) := by decide +kernel
theorem dL_drawn_8 : decode cL_drawn 8 = .ok (.iaload, 1) := by decide +kernel
theorem dL_drawn_9 : decode cL_drawn 9 = .ok (.goto 13, 3) := by decide +kernel
theorem dL_drawn_12 : decode cL_drawn 12 = .ok (.ldc 87, 2) := by decide +kernel
theorem dL_drawn_14 : decode cL_drawn 14 = .ok (.iload_n 1, 1) := by decide +kernel
theorem dL_drawn_15 : decode cL_drawn 15 = .ok (.iconst 3, 1) := by decide +kernel
theorem dL_drawn_16 : decode cL_drawn 16 = .ok (.iadd, 1) := by decide +kernel
theorem dL_drawn_17 : decode cL_drawn 17 = .ok (.imul, 1) := by decide +kernel
theorem dL_drawn_18 : decode cL_drawn 18 = .ok (.sipush 13477, 3) := by decide +kernel
theorem dL_drawn_21 : decode cL_drawn 21 = .ok (.iadd, 1) := by decide +kernel
theorem dL_drawn_22 : decode cL_drawn 22 = .ok (.ldc 88, 2) := by decide +kernel
theorem dL_drawn_24 : decode cL_drawn 24 = .ok (.iand, 1) := by decide +kernel
theorem dL_drawn_25 : decode cL_drawn 25 = .ok (.ireturn, 1) := by decide +kernel
set_option maxRecDepth 20000 in
theorem ggL_refuses_X3_changes : GoodIn wsL_refuses wsX3_changes := goodIn_r _ [10, 11, 12, 13, 14, 15, 16, 17, 382, 383, 384, 385, 386, 387, 388, 389, 390, 391, 392, 393] (by decide +kernel) (by decide +kernel)
set_option maxRecDepth 20000 in
theorem gL_refuses_X3_changes : GoodIn wsL_refuses (wsV RL 89 RX3 yX3_changes wsX3_changes) := goodIn_app (goodIn_of _ (by decide +kernel)) ggL_refuses_X3_changes
set_option maxRecDepth 20000 in
theorem ggL_refuses_L_adds : GoodIn wsL_refuses wsL_adds := goodIn_ca (goodIn_ca (goodIn_r _ [21, 22, 23, 1, 2, 24, 25, 26, 9, 27, 28, 29, 11, 30, 31, 32, 33, 34, 35, 36, 37, 38, 39, 40, 41, 42, 43, 44, 45, 46, 15, 47, 17, 48, 49, 50, 51, 52, 53, 54, 55, 56, 57, 58, 382, 383, 384, 385, 386, 387, 388, 389, 390, 391, 392, 393] (by decide +kernel) (by decide +kernel)) (goodIn_sub (fun _ h => List.mem_cons_of_mem _ (List.mem_append_left _ (List.mem_append_left _ (List.mem_append_right _ h)))) (by decide +kernel))) (goodIn_sub (fun _ h => List.mem_cons_of_mem _ (List.mem_append_left _ (List.mem_append_right _ h))) (by decide +kernel))
set_option maxRecDepth 20000 in
theorem gL_refuses_L_adds : GoodIn wsL_refuses (va_wsS RL 92 yL_adds wsL_adds) := goodIn_app (goodIn_of _ (by decide +kernel)) ggL_refuses_L_adds
set_option maxRecDepth 20000 in
theorem ggL_refuses_L_edits : GoodIn wsL_refuses wsL_edits := goodIn_ca (goodIn_ca (goodIn_ca (goodIn_r _ [61, 22, 62, 23, 1, 3, 2, 63, 64, 65, 9, 66, 28, 29, 11, 30, 31, 32, 33, 34, 35, 36, 37, 38, 39, 40, 41, 42, 43, 67, 68, 69, 70, 71, 72, 73, 74, 75, 15, 76, 17, 77, 78, 79, 80, 81, 82, 83, 84, 85, 86, 87, 53, 54, 55, 56, 57, 58, 88, 89, 90, 91, 92, 382, 383, 384, 385, 386, 387, 388, 389, 390, 391, 392, 393] (by decide +kernel) (by decide +kernel)) (goodIn_sub (fun _ h => List.mem_cons_of_mem _ (List.mem_append_left _ (List.mem_append_left _ (List.mem_append_right _ h)))) (by decide +kernel))) (goodIn_sub (fun _ h => List.mem_cons_of_mem _ (List.mem_append_left _ (List.mem_append_right _ h))) (by decide +kernel))) (goodIn_sub (fun _ h => List.mem_cons_of_mem _ (List.mem_append_right _ h)) (by decide +kernel))
set_option maxRecDepth 20000 in
theorem gL_refuses_L_edits : GoodIn wsL_refuses (va_wsS RL 98 yL_edits wsL_edits) := goodIn_app (goodIn_of _ (by decide +kernel)) ggL_refuses_L_edits
set_option maxRecDepth 20000 in
theorem ggL_refuses_L_sum : GoodIn wsL_refuses wsL_sum := goodIn_ca (goodIn_r _ [95, 62, 3, 96, 97, 98, 9, 99, 11, 67, 68, 69, 70, 71, 72, 73, 74, 75, 15, 76, 17, 88, 89, 90, 91, 56, 57, 58, 92, 382, 383, 384, 385, 386, 387, 388, 389, 390, 391, 392, 393] (by decide +kernel) (by decide +kernel)) (goodIn_sub (fun _ h => List.mem_cons_of_mem _ (List.mem_append_right _ h)) (by decide +kernel))
set_option maxRecDepth 20000 in
theorem gL_refuses_L_sum : GoodIn wsL_refuses (va_wsS RL 102 yL_sum wsL_sum) := goodIn_app (goodIn_of _ (by decide +kernel)) ggL_refuses_L_sum
set_option maxRecDepth 20000 in
theorem ggL_refuses_L_state : GoodIn wsL_refuses wsL_state := goodIn_ca (goodIn_r _ [102, 62, 3, 103, 104, 105, 9, 106, 86, 81, 67, 68, 69, 70, 71, 72, 11, 73, 74, 75, 15, 76, 17, 82, 83, 84, 85, 382, 383, 384, 385, 386, 387, 388, 389, 390, 391, 392, 393] (by decide +kernel) (by decide +kernel)) (goodIn_sub (fun _ h => List.mem_cons_of_mem _ (List.mem_append_right _ h)) (by decide +kernel))
set_option maxRecDepth 20000 in
theorem gL_refuses_L_state : GoodIn wsL_refuses (va_wsS RL 106 yL_state wsL_state) := goodIn_app (goodIn_of _ (by decide +kernel)) ggL_refuses_L_state
set_option maxRecDepth 20000 in
theorem ggL_refuses_L_inserts : GoodIn wsL_refuses wsL_inserts := goodIn_ca (goodIn_ca (goodIn_r _ [109, 22, 23, 1, 2, 110, 111, 112, 9, 113, 28, 29, 114, 115, 116, 117, 33, 34, 118, 119, 120, 121, 122, 123, 124, 125, 126, 127, 128, 129, 130, 131, 132, 133, 134, 135, 136, 86, 77, 78, 79, 80, 81, 82, 83, 84, 85, 137, 138, 139, 140, 141, 142, 143, 144, 145, 382, 383, 384, 385, 386, 387, 388, 394, 395] (by decide +kernel) (by decide +kernel)) (goodIn_sub (fun _ h => List.mem_cons_of_mem _ (List.mem_append_left _ (List.mem_append_left _ (List.mem_append_right _ h)))) (by decide +kernel))) (goodIn_sub (fun _ h => List.mem_cons_of_mem _ (List.mem_append_left _ (List.mem_append_right _ h))) (by decide +kernel))
set_option maxRecDepth 20000 in
theorem gL_refuses_L_inserts : GoodIn wsL_refuses (va_wsS RL 108 yL_inserts wsL_inserts) := goodIn_app (goodIn_of _ (by decide +kernel)) ggL_refuses_L_inserts
set_option maxRecDepth 20000 in
theorem ggL_refuses_L_writes : GoodIn wsL_refuses wsL_writes := goodIn_ca (goodIn_ca (goodIn_r _ [148, 22, 62, 1, 3, 149, 150, 151, 9, 152, 114, 115, 116, 117, 33, 34, 35, 36, 37, 38, 39, 40, 118, 119, 120, 121, 122, 123, 124, 125, 153, 154, 155, 156, 71, 72, 126, 127, 128, 129, 130, 131, 157, 158, 159, 160, 141, 137, 138, 139, 140, 382, 383, 384, 385, 386, 387, 388, 394, 395] (by decide +kernel) (by decide +kernel)) (goodIn_sub (fun _ h => List.mem_cons_of_mem _ (List.mem_append_left _ (List.mem_append_right _ h))) (by decide +kernel))) (goodIn_sub (fun _ h => List.mem_cons_of_mem _ (List.mem_append_right _ h)) (by decide +kernel))
set_option maxRecDepth 20000 in
theorem gL_refuses_L_writes : GoodIn wsL_refuses (va_wsS RL 113 yL_writes wsL_writes) := goodIn_app (goodIn_of _ (by decide +kernel)) ggL_refuses_L_writes
set_option maxRecDepth 20000 in
theorem ggL_refuses_L_deletes : GoodIn wsL_refuses wsL_deletes := goodIn_ca (goodIn_ca (goodIn_r _ [163, 22, 62, 1, 3, 164, 165, 166, 9, 167, 114, 115, 116, 117, 33, 34, 153, 154, 155, 156, 71, 72, 126, 127, 128, 129, 130, 131, 168, 169, 170, 171, 142, 143, 144, 145, 382, 383, 384, 385, 386, 387, 388, 394, 395] (by decide +kernel) (by decide +kernel)) (goodIn_sub (fun _ h => List.mem_cons_of_mem _ (List.mem_append_left _ (List.mem_append_right _ h))) (by decide +kernel))) (goodIn_sub (fun _ h => List.mem_cons_of_mem _ (List.mem_append_right _ h)) (by decide +kernel))
set_option maxRecDepth 20000 in
theorem gL_refuses_L_deletes : GoodIn wsL_refuses (va_wsS RL 116 yL_deletes wsL_deletes) := goodIn_app (goodIn_of _ (by decide +kernel)) ggL_refuses_L_deletes
set_option maxRecDepth 20000 in
theorem ggL_refuses_L_value : GoodIn wsL_refuses wsL_value := goodIn_ca (goodIn_ca (goodIn_r _ [174, 22, 62, 1, 3, 175, 176, 177, 9, 178, 114, 115, 116, 117, 33, 34, 35, 36, 37, 38, 39, 40, 153, 154, 155, 156, 71, 72, 126, 127, 128, 129, 130, 131, 157, 158, 159, 160, 141, 382, 383, 384, 385, 386, 387, 388, 394, 395] (by decide +kernel) (by decide +kernel)) (goodIn_sub (fun _ h => List.mem_cons_of_mem _ (List.mem_append_left _ (List.mem_append_right _ h))) (by decide +kernel))) (goodIn_sub (fun _ h => List.mem_cons_of_mem _ (List.mem_append_right _ h)) (by decide +kernel))
set_option maxRecDepth 20000 in
theorem gL_refuses_L_value : GoodIn wsL_refuses (va_wsS RL 119 yL_value wsL_value) := goodIn_app (goodIn_of _ (by decide +kernel)) ggL_refuses_L_value
set_option maxRecDepth 20000 in
theorem ggL_refuses_L_version : GoodIn wsL_refuses wsL_version := goodIn_ca (goodIn_r _ [181, 22, 1, 182, 183, 184, 9, 185, 114, 115, 116, 117, 33, 34, 168, 169, 170, 129, 171, 131, 382, 383, 384, 385, 386, 387, 388, 394, 395] (by decide +kernel) (by decide +kernel)) (goodIn_sub (fun _ h => List.mem_cons_of_mem _ (List.mem_append_left _ (List.mem_append_right _ h))) (by decide +kernel))
set_option maxRecDepth 20000 in
theorem gL_refuses_L_version : GoodIn wsL_refuses (va_wsS RL 122 yL_version wsL_version) := goodIn_app (goodIn_of _ (by decide +kernel)) ggL_refuses_L_version
set_option maxRecDepth 20000 in
theorem ggL_refuses_L_rowsAt : GoodIn wsL_refuses wsL_rowsAt := goodIn_ca (goodIn_r _ [188, 22, 1, 189, 190, 191, 9, 192, 33, 34, 114, 193, 194, 195, 129, 196, 131, 382, 383, 384, 385, 386, 387, 388, 394, 395] (by decide +kernel) (by decide +kernel)) (goodIn_sub (fun _ h => List.mem_cons_of_mem _ (List.mem_append_left _ (List.mem_append_right _ h))) (by decide +kernel))
set_option maxRecDepth 20000 in
theorem gL_refuses_L_rowsAt : GoodIn wsL_refuses (va_wsS RL 124 yL_rowsAt wsL_rowsAt) := goodIn_app (goodIn_of _ (by decide +kernel)) ggL_refuses_L_rowsAt
set_option maxRecDepth 20000 in
theorem ggL_refuses_L_valueAt : GoodIn wsL_refuses wsL_valueAt := goodIn_ca (goodIn_ca (goodIn_ca (goodIn_r _ [199, 22, 62, 23, 1, 3, 2, 200, 201, 202, 9, 203, 33, 34, 28, 29, 11, 114, 204, 115, 116, 117, 35, 36, 37, 38, 39, 40, 12, 13, 14, 15, 16, 17, 153, 154, 155, 156, 71, 72, 126, 127, 128, 129, 130, 131, 205, 206, 207, 208, 209, 158, 159, 160, 141, 168, 169, 170, 171, 210, 211, 212, 213, 214, 215, 216, 217, 57, 58, 56, 218, 219, 220, 122, 123, 124, 125, 221, 222, 223, 224, 225, 226, 227, 382, 383, 384, 385, 386, 387, 388, 389, 390, 391, 392, 393, 394, 395] (by decide +kernel) (by decide +kernel)) (goodIn_sub (fun _ h => List.mem_cons_of_mem _ (List.mem_append_left _ (List.mem_append_right _ h))) (by decide +kernel))) (goodIn_sub (fun _ h => List.mem_cons_of_mem _ (List.mem_append_left _ (List.mem_append_left _ (List.mem_append_right _ h)))) (by decide +kernel))) (goodIn_sub (fun _ h => List.mem_cons_of_mem _ (List.mem_append_right _ h)) (by decide +kernel))
set_option maxRecDepth 20000 in
theorem gL_refuses_L_valueAt : GoodIn wsL_refuses (va_wsS RL 126 yL_valueAt wsL_valueAt) := goodIn_app (goodIn_of _ (by decide +kernel)) ggL_refuses_L_valueAt
set_option maxRecDepth 20000 in
theorem ggL_refuses_L_takes : GoodIn wsL_refuses wsL_takes := goodIn_ca (goodIn_ca (goodIn_r _ [230, 22, 23, 1, 2, 231, 232, 233, 9, 234, 33, 34, 28, 29, 235, 236, 237, 238, 239, 240, 241, 242, 243, 244, 245, 246, 247, 248, 249, 250, 251, 252, 253, 254, 255, 256, 257, 258, 259, 382, 383, 384, 385, 386, 387, 388, 396, 397, 398, 399] (by decide +kernel) (by decide +kernel)) (goodIn_sub (fun _ h => List.mem_cons_of_mem _ (List.mem_append_left _ (List.mem_append_right _ h))) (by decide +kernel))) (goodIn_sub (fun _ h => List.mem_cons_of_mem _ (List.mem_append_left _ (List.mem_append_left _ (List.mem_append_right _ h)))) (by decide +kernel))
set_option maxRecDepth 20000 in
theorem gL_refuses_L_takes : GoodIn wsL_refuses (va_wsS RL 128 yL_takes wsL_takes) := goodIn_app (goodIn_of _ (by decide +kernel)) ggL_refuses_L_takes
set_option maxRecDepth 20000 in
theorem ggL_refuses_L_gives : GoodIn wsL_refuses wsL_gives := goodIn_ca (goodIn_ca (goodIn_r _ [262, 22, 23, 1, 2, 263, 264, 265, 9, 266, 235, 236, 237, 238, 33, 34, 267, 268, 269, 270, 28, 29, 239, 240, 241, 242, 243, 244, 245, 246, 247, 248, 249, 250, 251, 252, 253, 254, 255, 271, 272, 273, 274, 382, 383, 384, 385, 386, 387, 388, 396, 397, 398, 399] (by decide +kernel) (by decide +kernel)) (goodIn_sub (fun _ h => List.mem_cons_of_mem _ (List.mem_append_left _ (List.mem_append_right _ h))) (by decide +kernel))) (goodIn_sub (fun _ h => List.mem_cons_of_mem _ (List.mem_append_left _ (List.mem_append_left _ (List.mem_append_right _ h)))) (by decide +kernel))
set_option maxRecDepth 20000 in
theorem gL_refuses_L_gives : GoodIn wsL_refuses (va_wsS RL 131 yL_gives wsL_gives) := goodIn_app (goodIn_of _ (by decide +kernel)) ggL_refuses_L_gives
set_option maxRecDepth 20000 in
theorem ggL_refuses_L_restarts : GoodIn wsL_refuses wsL_restarts := goodIn_ca (goodIn_ca (goodIn_r _ [277, 22, 23, 1, 2, 278, 279, 280, 9, 281, 28, 29, 235, 236, 237, 238, 33, 34, 243, 244, 245, 246, 247, 248, 282, 283, 284, 285, 249, 250, 251, 252, 253, 254, 255, 382, 383, 384, 385, 386, 387, 388, 396, 397, 398, 399] (by decide +kernel) (by decide +kernel)) (goodIn_sub (fun _ h => List.mem_cons_of_mem _ (List.mem_append_left _ (List.mem_append_left _ (List.mem_append_right _ h)))) (by decide +kernel))) (goodIn_sub (fun _ h => List.mem_cons_of_mem _ (List.mem_append_left _ (List.mem_append_right _ h))) (by decide +kernel))
set_option maxRecDepth 20000 in
theorem gL_refuses_L_restarts : GoodIn wsL_refuses (va_wsS RL 134 yL_restarts wsL_restarts) := goodIn_app (goodIn_of _ (by decide +kernel)) ggL_refuses_L_restarts
set_option maxRecDepth 20000 in
theorem ggL_refuses_L_passes : GoodIn wsL_refuses wsL_passes := goodIn_ca (goodIn_r _ [288, 22, 1, 289, 290, 291, 9, 292, 33, 34, 235, 293, 294, 295, 246, 296, 253, 382, 383, 384, 385, 386, 387, 388, 396, 397, 398, 399] (by decide +kernel) (by decide +kernel)) (goodIn_sub (fun _ h => List.mem_cons_of_mem _ (List.mem_append_left _ (List.mem_append_right _ h))) (by decide +kernel))
set_option maxRecDepth 20000 in
theorem gL_refuses_L_passes : GoodIn wsL_refuses (va_wsS RL 137 yL_passes wsL_passes) := goodIn_app (goodIn_of _ (by decide +kernel)) ggL_refuses_L_passes
set_option maxRecDepth 20000 in
theorem ggL_refuses_L_begins : GoodIn wsL_refuses wsL_begins := goodIn_ca (goodIn_ca (goodIn_r _ [299, 22, 23, 1, 2, 300, 301, 302, 9, 303, 28, 29, 11, 86, 81, 136, 236, 237, 238, 33, 34, 267, 268, 269, 270, 235, 239, 240, 241, 242, 243, 244, 245, 246, 247, 248, 249, 250, 251, 252, 253, 254, 255, 77, 78, 79, 80, 304, 305, 306, 15, 307, 308, 309, 310, 311, 312, 313, 89, 90, 91, 56, 57, 58, 92, 12, 13, 14, 16, 17, 82, 83, 84, 85, 314, 315, 316, 317, 382, 383, 384, 385, 386, 387, 388, 396, 397, 398, 399, 389, 390, 391, 392, 393] (by decide +kernel) (by decide +kernel)) (goodIn_sub (fun _ h => List.mem_cons_of_mem _ (List.mem_append_left _ (List.mem_append_left _ (List.mem_append_right _ h)))) (by decide +kernel))) (goodIn_sub (fun _ h => List.mem_cons_of_mem _ (List.mem_append_left _ (List.mem_append_right _ h))) (by decide +kernel))
set_option maxRecDepth 20000 in
theorem gL_refuses_L_begins : GoodIn wsL_refuses (va_wsS RL 140 yL_begins wsL_begins) := goodIn_app (goodIn_of _ (by decide +kernel)) ggL_refuses_L_begins
set_option maxRecDepth 20000 in
theorem ggL_refuses_L_undoes : GoodIn wsL_refuses wsL_undoes := goodIn_ca (goodIn_ca (goodIn_r _ [320, 22, 23, 1, 2, 321, 322, 323, 9, 324, 28, 29, 81, 86, 136, 236, 237, 238, 33, 34, 267, 268, 269, 270, 235, 239, 240, 241, 242, 243, 244, 245, 246, 247, 248, 249, 250, 251, 252, 253, 254, 255, 325, 326, 327, 328, 11, 329, 309, 310, 15, 311, 312, 313, 89, 90, 91, 56, 57, 58, 92, 82, 83, 84, 85, 382, 383, 384, 385, 386, 387, 388, 396, 397, 398, 399, 389, 390, 391, 392, 393] (by decide +kernel) (by decide +kernel)) (goodIn_sub (fun _ h => List.mem_cons_of_mem _ (List.mem_append_left _ (List.mem_append_left _ (List.mem_append_right _ h)))) (by decide +kernel))) (goodIn_sub (fun _ h => List.mem_cons_of_mem _ (List.mem_append_left _ (List.mem_append_right _ h))) (by decide +kernel))
set_option maxRecDepth 20000 in
theorem gL_refuses_L_undoes : GoodIn wsL_refuses (va_wsS RL 143 yL_undoes wsL_undoes) := goodIn_app (goodIn_of _ (by decide +kernel)) ggL_refuses_L_undoes
set_option maxRecDepth 20000 in
theorem ggL_refuses_L_steps : GoodIn wsL_refuses wsL_steps := goodIn_ca (goodIn_ca (goodIn_r _ [332, 22, 23, 1, 2, 333, 334, 335, 9, 336, 33, 34, 337, 338, 339, 340, 236, 237, 238, 267, 268, 269, 270, 28, 29, 235, 239, 240, 241, 242, 243, 244, 245, 246, 247, 248, 249, 250, 251, 252, 253, 254, 255, 341, 342, 343, 344, 77, 78, 79, 80, 81, 345, 346, 347, 348, 136, 349, 350, 351, 352, 353, 354, 355, 356, 357, 358, 359, 360, 114, 126, 127, 128, 129, 130, 131, 168, 169, 170, 171, 82, 83, 84, 85, 86, 361, 362, 363, 364, 204, 205, 206, 207, 208, 209, 158, 159, 160, 141, 210, 211, 212, 213, 11, 214, 215, 216, 15, 217, 57, 58, 56, 218, 219, 220, 122, 123, 124, 125, 221, 222, 223, 224, 225, 226, 227, 365, 366, 367, 368, 369, 138, 139, 140, 142, 143, 144, 145, 370, 371, 372, 373, 282, 283, 284, 285, 374, 375, 376, 377, 382, 383, 384, 385, 386, 387, 388, 396, 397, 398, 399, 394, 395, 389, 390, 391, 392, 393] (by decide +kernel) (by decide +kernel)) (goodIn_sub (fun _ h => List.mem_cons_of_mem _ (List.mem_append_left _ (List.mem_append_right _ h))) (by decide +kernel))) (goodIn_sub (fun _ h => List.mem_cons_of_mem _ (List.mem_append_left _ (List.mem_append_left _ (List.mem_append_right _ h)))) (by decide +kernel))
set_option maxRecDepth 20000 in
theorem gL_refuses_L_steps : GoodIn wsL_refuses (va_wsS RL 146 yL_steps wsL_steps) := goodIn_app (goodIn_of _ (by decide +kernel)) ggL_refuses_L_steps
set_option maxRecDepth 20000 in
theorem ggL_refuses_X3_holder : GoodIn wsL_refuses wsX3_holder := goodIn_r _ [381, 235, 249, 250, 251, 246, 252, 253, 254, 255, 382, 383, 384, 385, 386, 387, 388, 396, 397, 398, 399] (by decide +kernel) (by decide +kernel)
set_option maxRecDepth 20000 in
theorem gL_refuses_X3_holder : GoodIn wsL_refuses (wsV RL 149 RX3 yX3_holder wsX3_holder) := goodIn_app (goodIn_of _ (by decide +kernel)) ggL_refuses_X3_holder
theorem dL_refuses_0 : decode cL_refuses 0 = .ok (.iload_n 1, 1) := by decide +kernel
theorem dL_refuses_1 : decode cL_refuses 1 = .ok (.iconst 2, 1) := by decide +kernel
theorem dL_refuses_2 : decode cL_refuses 2 = .ok (.irem, 1) := by decide +kernel
theorem dL_refuses_3 : decode cL_refuses 3 = .ok (.ifCond .ne 12, 3) := by decide +kernel
theorem dL_refuses_6 : decode cL_refuses 6 = .ok (.iconst (-1), 1) := by decide +kernel
theorem dL_refuses_7 : decode cL_refuses 7 = .ok (.iload_n 1, 1) := by decide +kernel
theorem dL_refuses_8 : decode cL_refuses 8 = .ok (.bipush 70, 2) := by decide +kernel
theorem dL_refuses_10 : decode cL_refuses 10 = .ok (.irem, 1) := by decide +kernel
theorem dL_refuses_11 : decode cL_refuses 11 = .ok (.isub, 1) := by decide +kernel
theorem dL_refuses_12 : decode cL_refuses 12 = .ok (.goto 10, 3) := by decide +kernel
theorem dL_refuses_15 : decode cL_refuses 15 = .ok (.bipush 40, 2) := by decide +kernel
theorem dL_refuses_17 : decode cL_refuses 17 = .ok (.iload_n 1, 1) := by decide +kernel
theorem dL_refuses_18 : decode cL_refuses 18 = .ok (.bipush 70, 2) := by decide +kernel
theorem dL_refuses_20 : decode cL_refuses 20 = .ok (.irem, 1) := by decide +kernel
theorem dL_refuses_21 : decode cL_refuses 21 = .ok (.iadd, 1) := by decide +kernel
theorem dL_refuses_22 : decode cL_refuses 22 = .ok (.istore_n 2, 1) := by decide +kernel
theorem dL_refuses_23 : decode cL_refuses 23 = .ok (.iload_n 1, 1) := by decide +kernel
theorem dL_refuses_24 : decode cL_refuses 24 = .ok (.iconst 2, 1) := by decide +kernel
theorem dL_refuses_25 : decode cL_refuses 25 = .ok (.irem, 1) := by decide +kernel
theorem dL_refuses_26 : decode cL_refuses 26 = .ok (.ifCond .ne 12, 3) := by decide +kernel
theorem dL_refuses_29 : decode cL_refuses 29 = .ok (.iconst 3, 1) := by decide +kernel
theorem dL_refuses_30 : decode cL_refuses 30 = .ok (.iload_n 1, 1) := by decide +kernel
theorem dL_refuses_31 : decode cL_refuses 31 = .ok (.bipush 70, 2) := by decide +kernel
theorem dL_refuses_33 : decode cL_refuses 33 = .ok (.irem, 1) := by decide +kernel
theorem dL_refuses_34 : decode cL_refuses 34 = .ok (.iadd, 1) := by decide +kernel
theorem dL_refuses_35 : decode cL_refuses 35 = .ok (.goto 9, 3) := by decide +kernel
theorem dL_refuses_38 : decode cL_refuses 38 = .ok (.iconst (-1), 1) := by decide +kernel
theorem dL_refuses_39 : decode cL_refuses 39 = .ok (.iload_n 1, 1) := by decide +kernel
theorem dL_refuses_40 : decode cL_refuses 40 = .ok (.bipush 70, 2) := by decide +kernel
theorem dL_refuses_42 : decode cL_refuses 42 = .ok (.irem, 1) := by decide +kernel
theorem dL_refuses_43 : decode cL_refuses 43 = .ok (.isub, 1) := by decide +kernel
theorem dL_refuses_44 : decode cL_refuses 44 = .ok (.istore_n 3, 1) := by decide +kernel
theorem dL_refuses_45 : decode cL_refuses 45 = .ok (.aload_n 0, 1) := by decide +kernel
theorem dL_refuses_46 : decode cL_refuses 46 = .ok (.invokevirtual 89, 3) := by decide +kernel
theorem dL_refuses_49 : decode cL_refuses 49 = .ok (.istore 4, 2) := by decide +kernel
theorem dL_refuses_51 : decode cL_refuses 51 = .ok (.aload_n 0, 1) := by decide +kernel
theorem dL_refuses_52 : decode cL_refuses 52 = .ok (.iload_n 3, 1) := by decide +kernel
theorem dL_refuses_53 : decode cL_refuses 53 = .ok (.iconst 0, 1) := by decide +kernel
theorem dL_refuses_54 : decode cL_refuses 54 = .ok (.iconst 1, 1) := by decide +kernel
theorem dL_refuses_55 : decode cL_refuses 55 = .ok (.invokestatic 92, 3) := by decide +kernel
theorem dL_refuses_58 : decode cL_refuses 58 = .ok (.ldc 15, 2) := by decide +kernel
theorem dL_refuses_60 : decode cL_refuses 60 = .ok (.if_icmp .ne 229, 3) := by decide +kernel
theorem dL_refuses_63 : decode cL_refuses 63 = .ok (.aload_n 0, 1) := by decide +kernel
theorem dL_refuses_64 : decode cL_refuses 64 = .ok (.iconst 0, 1) := by decide +kernel
theorem dL_refuses_65 : decode cL_refuses 65 = .ok (.iload_n 3, 1) := by decide +kernel
theorem dL_refuses_66 : decode cL_refuses 66 = .ok (.iconst 1, 1) := by decide +kernel
theorem dL_refuses_67 : decode cL_refuses 67 = .ok (.invokestatic 92, 3) := by decide +kernel
theorem dL_refuses_70 : decode cL_refuses 70 = .ok (.ldc 15, 2) := by decide +kernel
theorem dL_refuses_72 : decode cL_refuses 72 = .ok (.if_icmp .ne 217, 3) := by decide +kernel
theorem dL_refuses_75 : decode cL_refuses 75 = .ok (.aload_n 0, 1) := by decide +kernel
theorem dL_refuses_76 : decode cL_refuses 76 = .ok (.iconst 0, 1) := by decide +kernel
theorem dL_refuses_77 : decode cL_refuses 77 = .ok (.iconst 0, 1) := by decide +kernel
theorem dL_refuses_78 : decode cL_refuses 78 = .ok (.sipush 1001, 3) := by decide +kernel
theorem dL_refuses_81 : decode cL_refuses 81 = .ok (.iload_n 1, 1) := by decide +kernel
theorem dL_refuses_82 : decode cL_refuses 82 = .ok (.iadd, 1) := by decide +kernel
theorem dL_refuses_83 : decode cL_refuses 83 = .ok (.invokestatic 92, 3) := by decide +kernel
theorem dL_refuses_86 : decode cL_refuses 86 = .ok (.ldc 15, 2) := by decide +kernel
theorem dL_refuses_88 : decode cL_refuses 88 = .ok (.if_icmp .ne 201, 3) := by decide +kernel
theorem dL_refuses_91 : decode cL_refuses 91 = .ok (.aload_n 0, 1) := by decide +kernel
theorem dL_refuses_92 : decode cL_refuses 92 = .ok (.iconst 1, 1) := by decide +kernel
theorem dL_refuses_93 : decode cL_refuses 93 = .ok (.iconst 0, 1) := by decide +kernel
theorem dL_refuses_94 : decode cL_refuses 94 = .ok (.iconst 0, 1) := by decide +kernel
theorem dL_refuses_95 : decode cL_refuses 95 = .ok (.invokestatic 92, 3) := by decide +kernel
theorem dL_refuses_98 : decode cL_refuses 98 = .ok (.ldc 15, 2) := by decide +kernel
theorem dL_refuses_100 : decode cL_refuses 100 = .ok (.if_icmp .ne 189, 3) := by decide +kernel
theorem dL_refuses_103 : decode cL_refuses 103 = .ok (.aload_n 0, 1) := by decide +kernel
theorem dL_refuses_104 : decode cL_refuses 104 = .ok (.iconst 1, 1) := by decide +kernel
theorem dL_refuses_105 : decode cL_refuses 105 = .ok (.iconst 1, 1) := by decide +kernel
theorem dL_refuses_106 : decode cL_refuses 106 = .ok (.bipush 10, 2) := by decide +kernel
theorem dL_refuses_108 : decode cL_refuses 108 = .ok (.iload_n 1, 1) := by decide +kernel
theorem dL_refuses_109 : decode cL_refuses 109 = .ok (.iadd, 1) := by decide +kernel
theorem dL_refuses_110 : decode cL_refuses 110 = .ok (.invokestatic 92, 3) := by decide +kernel
theorem dL_refuses_113 : decode cL_refuses 113 = .ok (.ldc 15, 2) := by decide +kernel
theorem dL_refuses_115 : decode cL_refuses 115 = .ok (.if_icmp .ne 174, 3) := by decide +kernel
theorem dL_refuses_118 : decode cL_refuses 118 = .ok (.aload_n 0, 1) := by decide +kernel
theorem dL_refuses_119 : decode cL_refuses 119 = .ok (.iconst 2, 1) := by decide +kernel
theorem dL_refuses_120 : decode cL_refuses 120 = .ok (.iconst 1, 1) := by decide +kernel
theorem dL_refuses_121 : decode cL_refuses 121 = .ok (.iconst 1, 1) := by decide +kernel
theorem dL_refuses_122 : decode cL_refuses 122 = .ok (.invokestatic 92, 3) := by decide +kernel
theorem dL_refuses_125 : decode cL_refuses 125 = .ok (.ldc 15, 2) := by decide +kernel
theorem dL_refuses_127 : decode cL_refuses 127 = .ok (.if_icmp .ne 162, 3) := by decide +kernel
theorem dL_refuses_130 : decode cL_refuses 130 = .ok (.aload_n 0, 1) := by decide +kernel
theorem dL_refuses_131 : decode cL_refuses 131 = .ok (.iconst 2, 1) := by decide +kernel
theorem dL_refuses_132 : decode cL_refuses 132 = .ok (.iconst 1, 1) := by decide +kernel
theorem dL_refuses_133 : decode cL_refuses 133 = .ok (.iload_n 3, 1) := by decide +kernel
theorem dL_refuses_134 : decode cL_refuses 134 = .ok (.invokestatic 92, 3) := by decide +kernel
theorem dL_refuses_137 : decode cL_refuses 137 = .ok (.ldc 15, 2) := by decide +kernel
theorem dL_refuses_139 : decode cL_refuses 139 = .ok (.if_icmp .ne 150, 3) := by decide +kernel
theorem dL_refuses_142 : decode cL_refuses 142 = .ok (.iload 4, 2) := by decide +kernel
theorem dL_refuses_144 : decode cL_refuses 144 = .ok (.bipush 12, 2) := by decide +kernel
theorem dL_refuses_146 : decode cL_refuses 146 = .ok (.if_icmp .lt 15, 3) := by decide +kernel
theorem dL_refuses_149 : decode cL_refuses 149 = .ok (.aload_n 0, 1) := by decide +kernel
theorem dL_refuses_150 : decode cL_refuses 150 = .ok (.iconst 0, 1) := by decide +kernel
theorem dL_refuses_151 : decode cL_refuses 151 = .ok (.iconst 0, 1) := by decide +kernel
theorem dL_refuses_152 : decode cL_refuses 152 = .ok (.iconst 1, 1) := by decide +kernel
theorem dL_refuses_153 : decode cL_refuses 153 = .ok (.invokestatic 92, 3) := by decide +kernel
theorem dL_refuses_156 : decode cL_refuses 156 = .ok (.ldc 18, 2) := by decide +kernel
theorem dL_refuses_158 : decode cL_refuses 158 = .ok (.if_icmp .ne 131, 3) := by decide +kernel
theorem dL_refuses_161 : decode cL_refuses 161 = .ok (.aload_n 0, 1) := by decide +kernel
theorem dL_refuses_162 : decode cL_refuses 162 = .ok (.iload_n 2, 1) := by decide +kernel
theorem dL_refuses_163 : decode cL_refuses 163 = .ok (.iconst 2, 1) := by decide +kernel
theorem dL_refuses_164 : decode cL_refuses 164 = .ok (.iconst 2, 1) := by decide +kernel
theorem dL_refuses_165 : decode cL_refuses 165 = .ok (.iconst 2, 1) := by decide +kernel
theorem dL_refuses_166 : decode cL_refuses 166 = .ok (.invokestatic 98, 3) := by decide +kernel
theorem dL_refuses_169 : decode cL_refuses 169 = .ok (.ldc 15, 2) := by decide +kernel
theorem dL_refuses_171 : decode cL_refuses 171 = .ok (.if_icmp .ne 118, 3) := by decide +kernel
theorem dL_refuses_174 : decode cL_refuses 174 = .ok (.aload_n 0, 1) := by decide +kernel
theorem dL_refuses_175 : decode cL_refuses 175 = .ok (.iload 4, 2) := by decide +kernel
theorem dL_refuses_177 : decode cL_refuses 177 = .ok (.iconst 1, 1) := by decide +kernel
theorem dL_refuses_178 : decode cL_refuses 178 = .ok (.iadd, 1) := by decide +kernel
theorem dL_refuses_179 : decode cL_refuses 179 = .ok (.iload_n 1, 1) := by decide +kernel
theorem dL_refuses_180 : decode cL_refuses 180 = .ok (.iadd, 1) := by decide +kernel
theorem dL_refuses_181 : decode cL_refuses 181 = .ok (.iconst 0, 1) := by decide +kernel
theorem dL_refuses_182 : decode cL_refuses 182 = .ok (.iconst 0, 1) := by decide +kernel
theorem dL_refuses_183 : decode cL_refuses 183 = .ok (.iconst 1, 1) := by decide +kernel
theorem dL_refuses_184 : decode cL_refuses 184 = .ok (.invokestatic 98, 3) := by decide +kernel
theorem dL_refuses_187 : decode cL_refuses 187 = .ok (.ldc 25, 2) := by decide +kernel
theorem dL_refuses_189 : decode cL_refuses 189 = .ok (.if_icmp .ne 100, 3) := by decide +kernel
theorem dL_refuses_192 : decode cL_refuses 192 = .ok (.aload_n 0, 1) := by decide +kernel
theorem dL_refuses_193 : decode cL_refuses 193 = .ok (.iload_n 1, 1) := by decide +kernel
theorem dL_refuses_194 : decode cL_refuses 194 = .ok (.ineg, 1) := by decide +kernel
theorem dL_refuses_195 : decode cL_refuses 195 = .ok (.iconst 0, 1) := by decide +kernel
theorem dL_refuses_196 : decode cL_refuses 196 = .ok (.iconst 0, 1) := by decide +kernel
theorem dL_refuses_197 : decode cL_refuses 197 = .ok (.iconst 1, 1) := by decide +kernel
theorem dL_refuses_198 : decode cL_refuses 198 = .ok (.invokestatic 98, 3) := by decide +kernel
theorem dL_refuses_201 : decode cL_refuses 201 = .ok (.ldc 25, 2) := by decide +kernel
theorem dL_refuses_203 : decode cL_refuses 203 = .ok (.if_icmp .ne 86, 3) := by decide +kernel
theorem dL_refuses_206 : decode cL_refuses 206 = .ok (.aload_n 0, 1) := by decide +kernel
theorem dL_refuses_207 : decode cL_refuses 207 = .ok (.iload 4, 2) := by decide +kernel
theorem dL_refuses_209 : decode cL_refuses 209 = .ok (.iconst 1, 1) := by decide +kernel
theorem dL_refuses_210 : decode cL_refuses 210 = .ok (.iadd, 1) := by decide +kernel
theorem dL_refuses_211 : decode cL_refuses 211 = .ok (.invokestatic 102, 3) := by decide +kernel
theorem dL_refuses_214 : decode cL_refuses 214 = .ok (.ldc 25, 2) := by decide +kernel
theorem dL_refuses_216 : decode cL_refuses 216 = .ok (.if_icmp .ne 73, 3) := by decide +kernel
theorem dL_refuses_219 : decode cL_refuses 219 = .ok (.aload_n 0, 1) := by decide +kernel
theorem dL_refuses_220 : decode cL_refuses 220 = .ok (.iconst 0, 1) := by decide +kernel
theorem dL_refuses_221 : decode cL_refuses 221 = .ok (.invokestatic 102, 3) := by decide +kernel
theorem dL_refuses_224 : decode cL_refuses 224 = .ok (.ldc 25, 2) := by decide +kernel
theorem dL_refuses_226 : decode cL_refuses 226 = .ok (.if_icmp .ne 63, 3) := by decide +kernel
theorem dL_refuses_229 : decode cL_refuses 229 = .ok (.aload_n 0, 1) := by decide +kernel
theorem dL_refuses_230 : decode cL_refuses 230 = .ok (.iload_n 1, 1) := by decide +kernel
theorem dL_refuses_231 : decode cL_refuses 231 = .ok (.ineg, 1) := by decide +kernel
theorem dL_refuses_232 : decode cL_refuses 232 = .ok (.invokestatic 106, 3) := by decide +kernel
theorem dL_refuses_235 : decode cL_refuses 235 = .ok (.ldc 25, 2) := by decide +kernel
theorem dL_refuses_237 : decode cL_refuses 237 = .ok (.if_icmp .ne 52, 3) := by decide +kernel
theorem dL_refuses_240 : decode cL_refuses 240 = .ok (.aload_n 0, 1) := by decide +kernel
theorem dL_refuses_241 : decode cL_refuses 241 = .ok (.iload_n 2, 1) := by decide +kernel
theorem dL_refuses_242 : decode cL_refuses 242 = .ok (.iconst 1, 1) := by decide +kernel
theorem dL_refuses_243 : decode cL_refuses 243 = .ok (.iconst 1, 1) := by decide +kernel
theorem dL_refuses_244 : decode cL_refuses 244 = .ok (.iconst 1, 1) := by decide +kernel
theorem dL_refuses_245 : decode cL_refuses 245 = .ok (.invokestatic 108, 3) := by decide +kernel
theorem dL_refuses_248 : decode cL_refuses 248 = .ok (.ldc 15, 2) := by decide +kernel
theorem dL_refuses_250 : decode cL_refuses 250 = .ok (.if_icmp .ne 39, 3) := by decide +kernel
theorem dL_refuses_253 : decode cL_refuses 253 = .ok (.aload_n 0, 1) := by decide +kernel
theorem dL_refuses_254 : decode cL_refuses 254 = .ok (.iconst 1, 1) := by decide +kernel
theorem dL_refuses_255 : decode cL_refuses 255 = .ok (.ldc 111, 2) := by decide +kernel
theorem dL_refuses_257 : decode cL_refuses 257 = .ok (.iload_n 1, 1) := by decide +kernel
theorem dL_refuses_258 : decode cL_refuses 258 = .ok (.iadd, 1) := by decide +kernel
theorem dL_refuses_259 : decode cL_refuses 259 = .ok (.iconst 1, 1) := by decide +kernel
theorem dL_refuses_260 : decode cL_refuses 260 = .ok (.iconst 1, 1) := by decide +kernel
theorem dL_refuses_261 : decode cL_refuses 261 = .ok (.invokestatic 108, 3) := by decide +kernel
theorem dL_refuses_264 : decode cL_refuses 264 = .ok (.ldc 15, 2) := by decide +kernel
theorem dL_refuses_266 : decode cL_refuses 266 = .ok (.if_icmp .ne 23, 3) := by decide +kernel
theorem dL_refuses_269 : decode cL_refuses 269 = .ok (.aload_n 0, 1) := by decide +kernel
theorem dL_refuses_270 : decode cL_refuses 270 = .ok (.iconst 1, 1) := by decide +kernel
theorem dL_refuses_271 : decode cL_refuses 271 = .ok (.iconst 1, 1) := by decide +kernel
theorem dL_refuses_272 : decode cL_refuses 272 = .ok (.iconst 1, 1) := by decide +kernel
theorem dL_refuses_273 : decode cL_refuses 273 = .ok (.ldc 112, 2) := by decide +kernel
theorem dL_refuses_275 : decode cL_refuses 275 = .ok (.iload_n 1, 1) := by decide +kernel
theorem dL_refuses_276 : decode cL_refuses 276 = .ok (.isub, 1) := by decide +kernel
theorem dL_refuses_277 : decode cL_refuses 277 = .ok (.invokestatic 108, 3) := by decide +kernel
theorem dL_refuses_280 : decode cL_refuses 280 = .ok (.ldc 15, 2) := by decide +kernel
theorem dL_refuses_282 : decode cL_refuses 282 = .ok (.if_icmp .ne 7, 3) := by decide +kernel
theorem dL_refuses_285 : decode cL_refuses 285 = .ok (.iconst 1, 1) := by decide +kernel
theorem dL_refuses_286 : decode cL_refuses 286 = .ok (.goto 4, 3) := by decide +kernel
theorem dL_refuses_289 : decode cL_refuses 289 = .ok (.iconst 0, 1) := by decide +kernel
theorem dL_refuses_290 : decode cL_refuses 290 = .ok (.istore 5, 2) := by decide +kernel
theorem dL_refuses_292 : decode cL_refuses 292 = .ok (.iload 5, 2) := by decide +kernel
theorem dL_refuses_294 : decode cL_refuses 294 = .ok (.ifCond .eq 256, 3) := by decide +kernel
theorem dL_refuses_297 : decode cL_refuses 297 = .ok (.aload_n 0, 1) := by decide +kernel
theorem dL_refuses_298 : decode cL_refuses 298 = .ok (.iload_n 2, 1) := by decide +kernel
theorem dL_refuses_299 : decode cL_refuses 299 = .ok (.iconst 0, 1) := by decide +kernel
theorem dL_refuses_300 : decode cL_refuses 300 = .ok (.iconst 0, 1) := by decide +kernel
theorem dL_refuses_301 : decode cL_refuses 301 = .ok (.invokestatic 113, 3) := by decide +kernel
theorem dL_refuses_304 : decode cL_refuses 304 = .ok (.ldc 15, 2) := by decide +kernel
theorem dL_refuses_306 : decode cL_refuses 306 = .ok (.if_icmp .ne 244, 3) := by decide +kernel
theorem dL_refuses_309 : decode cL_refuses 309 = .ok (.aload_n 0, 1) := by decide +kernel
theorem dL_refuses_310 : decode cL_refuses 310 = .ok (.iconst 0, 1) := by decide +kernel
theorem dL_refuses_311 : decode cL_refuses 311 = .ok (.iload_n 3, 1) := by decide +kernel
theorem dL_refuses_312 : decode cL_refuses 312 = .ok (.iconst 0, 1) := by decide +kernel
theorem dL_refuses_313 : decode cL_refuses 313 = .ok (.invokestatic 113, 3) := by decide +kernel
theorem dL_refuses_316 : decode cL_refuses 316 = .ok (.ldc 15, 2) := by decide +kernel
theorem dL_refuses_318 : decode cL_refuses 318 = .ok (.if_icmp .ne 232, 3) := by decide +kernel
theorem dL_refuses_321 : decode cL_refuses 321 = .ok (.aload_n 0, 1) := by decide +kernel
theorem dL_refuses_322 : decode cL_refuses 322 = .ok (.iconst 0, 1) := by decide +kernel
theorem dL_refuses_323 : decode cL_refuses 323 = .ok (.iconst 0, 1) := by decide +kernel
theorem dL_refuses_324 : decode cL_refuses 324 = .ok (.ldc 111, 2) := by decide +kernel
theorem dL_refuses_326 : decode cL_refuses 326 = .ok (.invokestatic 113, 3) := by decide +kernel
theorem dL_refuses_329 : decode cL_refuses 329 = .ok (.ldc 15, 2) := by decide +kernel
theorem dL_refuses_331 : decode cL_refuses 331 = .ok (.if_icmp .ne 219, 3) := by decide +kernel
theorem dL_refuses_334 : decode cL_refuses 334 = .ok (.aload_n 0, 1) := by decide +kernel
theorem dL_refuses_335 : decode cL_refuses 335 = .ok (.iload_n 2, 1) := by decide +kernel
theorem dL_refuses_336 : decode cL_refuses 336 = .ok (.invokestatic 116, 3) := by decide +kernel
theorem dL_refuses_339 : decode cL_refuses 339 = .ok (.ldc 15, 2) := by decide +kernel
theorem dL_refuses_341 : decode cL_refuses 341 = .ok (.if_icmp .ne 209, 3) := by decide +kernel
theorem dL_refuses_344 : decode cL_refuses 344 = .ok (.aload_n 0, 1) := by decide +kernel
theorem dL_refuses_345 : decode cL_refuses 345 = .ok (.iconst 0, 1) := by decide +kernel
theorem dL_refuses_346 : decode cL_refuses 346 = .ok (.iload_n 3, 1) := by decide +kernel
theorem dL_refuses_347 : decode cL_refuses 347 = .ok (.invokestatic 119, 3) := by decide +kernel
theorem dL_refuses_350 : decode cL_refuses 350 = .ok (.ldc 15, 2) := by decide +kernel
theorem dL_refuses_352 : decode cL_refuses 352 = .ok (.if_icmp .ne 198, 3) := by decide +kernel
theorem dL_refuses_355 : decode cL_refuses 355 = .ok (.aload_n 0, 1) := by decide +kernel
theorem dL_refuses_356 : decode cL_refuses 356 = .ok (.iload_n 2, 1) := by decide +kernel
theorem dL_refuses_357 : decode cL_refuses 357 = .ok (.invokestatic 122, 3) := by decide +kernel
theorem dL_refuses_360 : decode cL_refuses 360 = .ok (.ldc 15, 2) := by decide +kernel
theorem dL_refuses_362 : decode cL_refuses 362 = .ok (.if_icmp .ne 188, 3) := by decide +kernel
theorem dL_refuses_365 : decode cL_refuses 365 = .ok (.aload_n 0, 1) := by decide +kernel
theorem dL_refuses_366 : decode cL_refuses 366 = .ok (.bipush 13, 2) := by decide +kernel
theorem dL_refuses_368 : decode cL_refuses 368 = .ok (.iload_n 1, 1) := by decide +kernel
theorem dL_refuses_369 : decode cL_refuses 369 = .ok (.iadd, 1) := by decide +kernel
theorem dL_refuses_370 : decode cL_refuses 370 = .ok (.invokestatic 124, 3) := by decide +kernel
theorem dL_refuses_373 : decode cL_refuses 373 = .ok (.ldc 15, 2) := by decide +kernel
theorem dL_refuses_375 : decode cL_refuses 375 = .ok (.if_icmp .ne 175, 3) := by decide +kernel
theorem dL_refuses_378 : decode cL_refuses 378 = .ok (.aload_n 0, 1) := by decide +kernel
theorem dL_refuses_379 : decode cL_refuses 379 = .ok (.iconst (-1), 1) := by decide +kernel
theorem dL_refuses_380 : decode cL_refuses 380 = .ok (.invokestatic 124, 3) := by decide +kernel
theorem dL_refuses_383 : decode cL_refuses 383 = .ok (.ldc 15, 2) := by decide +kernel
theorem dL_refuses_385 : decode cL_refuses 385 = .ok (.if_icmp .ne 165, 3) := by decide +kernel
theorem dL_refuses_388 : decode cL_refuses 388 = .ok (.aload_n 0, 1) := by decide +kernel
theorem dL_refuses_389 : decode cL_refuses 389 = .ok (.iconst 0, 1) := by decide +kernel
theorem dL_refuses_390 : decode cL_refuses 390 = .ok (.iconst 0, 1) := by decide +kernel
theorem dL_refuses_391 : decode cL_refuses 391 = .ok (.iload 4, 2) := by decide +kernel
theorem dL_refuses_393 : decode cL_refuses 393 = .ok (.iconst 1, 1) := by decide +kernel
theorem dL_refuses_394 : decode cL_refuses 394 = .ok (.iadd, 1) := by decide +kernel
theorem dL_refuses_395 : decode cL_refuses 395 = .ok (.invokestatic 126, 3) := by decide +kernel
theorem dL_refuses_398 : decode cL_refuses 398 = .ok (.ldc 15, 2) := by decide +kernel
theorem dL_refuses_400 : decode cL_refuses 400 = .ok (.if_icmp .ne 150, 3) := by decide +kernel
theorem dL_refuses_403 : decode cL_refuses 403 = .ok (.aload_n 0, 1) := by decide +kernel
theorem dL_refuses_404 : decode cL_refuses 404 = .ok (.iload_n 2, 1) := by decide +kernel
theorem dL_refuses_405 : decode cL_refuses 405 = .ok (.iconst 0, 1) := by decide +kernel
theorem dL_refuses_406 : decode cL_refuses 406 = .ok (.iconst 0, 1) := by decide +kernel
theorem dL_refuses_407 : decode cL_refuses 407 = .ok (.invokestatic 126, 3) := by decide +kernel
theorem dL_refuses_410 : decode cL_refuses 410 = .ok (.ldc 15, 2) := by decide +kernel
theorem dL_refuses_412 : decode cL_refuses 412 = .ok (.if_icmp .ne 138, 3) := by decide +kernel
theorem dL_refuses_415 : decode cL_refuses 415 = .ok (.aload_n 0, 1) := by decide +kernel
theorem dL_refuses_416 : decode cL_refuses 416 = .ok (.iconst 4, 1) := by decide +kernel
theorem dL_refuses_417 : decode cL_refuses 417 = .ok (.iload_n 1, 1) := by decide +kernel
theorem dL_refuses_418 : decode cL_refuses 418 = .ok (.iadd, 1) := by decide +kernel
theorem dL_refuses_419 : decode cL_refuses 419 = .ok (.iconst 1, 1) := by decide +kernel
theorem dL_refuses_420 : decode cL_refuses 420 = .ok (.invokestatic 128, 3) := by decide +kernel
theorem dL_refuses_423 : decode cL_refuses 423 = .ok (.ldc 15, 2) := by decide +kernel
theorem dL_refuses_425 : decode cL_refuses 425 = .ok (.if_icmp .ne 125, 3) := by decide +kernel
theorem dL_refuses_428 : decode cL_refuses 428 = .ok (.aload_n 0, 1) := by decide +kernel
theorem dL_refuses_429 : decode cL_refuses 429 = .ok (.iconst 0, 1) := by decide +kernel
theorem dL_refuses_430 : decode cL_refuses 430 = .ok (.bipush 101, 2) := by decide +kernel
theorem dL_refuses_432 : decode cL_refuses 432 = .ok (.iload_n 1, 1) := by decide +kernel
theorem dL_refuses_433 : decode cL_refuses 433 = .ok (.iadd, 1) := by decide +kernel
theorem dL_refuses_434 : decode cL_refuses 434 = .ok (.invokestatic 128, 3) := by decide +kernel
theorem dL_refuses_437 : decode cL_refuses 437 = .ok (.ldc 15, 2) := by decide +kernel
theorem dL_refuses_439 : decode cL_refuses 439 = .ok (.if_icmp .ne 111, 3) := by decide +kernel
theorem dL_refuses_442 : decode cL_refuses 442 = .ok (.aload_n 0, 1) := by decide +kernel
theorem dL_refuses_443 : decode cL_refuses 443 = .ok (.iconst (-1), 1) := by decide +kernel
theorem dL_refuses_444 : decode cL_refuses 444 = .ok (.invokestatic 131, 3) := by decide +kernel
theorem dL_refuses_447 : decode cL_refuses 447 = .ok (.ldc 15, 2) := by decide +kernel
theorem dL_refuses_449 : decode cL_refuses 449 = .ok (.if_icmp .ne 101, 3) := by decide +kernel
theorem dL_refuses_452 : decode cL_refuses 452 = .ok (.aload_n 0, 1) := by decide +kernel
theorem dL_refuses_453 : decode cL_refuses 453 = .ok (.iconst 4, 1) := by decide +kernel
theorem dL_refuses_454 : decode cL_refuses 454 = .ok (.invokestatic 134, 3) := by decide +kernel
theorem dL_refuses_457 : decode cL_refuses 457 = .ok (.ldc 15, 2) := by decide +kernel
theorem dL_refuses_459 : decode cL_refuses 459 = .ok (.if_icmp .ne 91, 3) := by decide +kernel
theorem dL_refuses_462 : decode cL_refuses 462 = .ok (.aload_n 0, 1) := by decide +kernel
theorem dL_refuses_463 : decode cL_refuses 463 = .ok (.iconst 0, 1) := by decide +kernel
theorem dL_refuses_464 : decode cL_refuses 464 = .ok (.invokestatic 137, 3) := by decide +kernel
theorem dL_refuses_467 : decode cL_refuses 467 = .ok (.ldc 15, 2) := by decide +kernel
theorem dL_refuses_469 : decode cL_refuses 469 = .ok (.if_icmp .ne 81, 3) := by decide +kernel
theorem dL_refuses_472 : decode cL_refuses 472 = .ok (.aload_n 0, 1) := by decide +kernel
theorem dL_refuses_473 : decode cL_refuses 473 = .ok (.sipush 1001, 3) := by decide +kernel
theorem dL_refuses_476 : decode cL_refuses 476 = .ok (.iload_n 1, 1) := by decide +kernel
theorem dL_refuses_477 : decode cL_refuses 477 = .ok (.iadd, 1) := by decide +kernel
theorem dL_refuses_478 : decode cL_refuses 478 = .ok (.invokestatic 137, 3) := by decide +kernel
theorem dL_refuses_481 : decode cL_refuses 481 = .ok (.ldc 15, 2) := by decide +kernel
theorem dL_refuses_483 : decode cL_refuses 483 = .ok (.if_icmp .ne 67, 3) := by decide +kernel
theorem dL_refuses_486 : decode cL_refuses 486 = .ok (.aload_n 0, 1) := by decide +kernel
theorem dL_refuses_487 : decode cL_refuses 487 = .ok (.iconst (-1), 1) := by decide +kernel
theorem dL_refuses_488 : decode cL_refuses 488 = .ok (.iload_n 1, 1) := by decide +kernel
theorem dL_refuses_489 : decode cL_refuses 489 = .ok (.isub, 1) := by decide +kernel
theorem dL_refuses_490 : decode cL_refuses 490 = .ok (.invokestatic 140, 3) := by decide +kernel
theorem dL_refuses_493 : decode cL_refuses 493 = .ok (.ldc 15, 2) := by decide +kernel
theorem dL_refuses_495 : decode cL_refuses 495 = .ok (.if_icmp .ne 55, 3) := by decide +kernel
theorem dL_refuses_498 : decode cL_refuses 498 = .ok (.aload_n 0, 1) := by decide +kernel
theorem dL_refuses_499 : decode cL_refuses 499 = .ok (.iconst 4, 1) := by decide +kernel
theorem dL_refuses_500 : decode cL_refuses 500 = .ok (.invokestatic 143, 3) := by decide +kernel
theorem dL_refuses_503 : decode cL_refuses 503 = .ok (.ldc 15, 2) := by decide +kernel
theorem dL_refuses_505 : decode cL_refuses 505 = .ok (.if_icmp .ne 45, 3) := by decide +kernel
theorem dL_refuses_508 : decode cL_refuses 508 = .ok (.aload_n 0, 1) := by decide +kernel
theorem dL_refuses_509 : decode cL_refuses 509 = .ok (.iconst 0, 1) := by decide +kernel
theorem dL_refuses_510 : decode cL_refuses 510 = .ok (.iconst 0, 1) := by decide +kernel
theorem dL_refuses_511 : decode cL_refuses 511 = .ok (.iconst 0, 1) := by decide +kernel
theorem dL_refuses_512 : decode cL_refuses 512 = .ok (.invokestatic 146, 3) := by decide +kernel
theorem dL_refuses_515 : decode cL_refuses 515 = .ok (.ldc 15, 2) := by decide +kernel
theorem dL_refuses_517 : decode cL_refuses 517 = .ok (.if_icmp .ne 33, 3) := by decide +kernel
theorem dL_refuses_520 : decode cL_refuses 520 = .ok (.aload_n 0, 1) := by decide +kernel
theorem dL_refuses_521 : decode cL_refuses 521 = .ok (.iconst 0, 1) := by decide +kernel
theorem dL_refuses_522 : decode cL_refuses 522 = .ok (.bipush 41, 2) := by decide +kernel
theorem dL_refuses_524 : decode cL_refuses 524 = .ok (.iconst 0, 1) := by decide +kernel
theorem dL_refuses_525 : decode cL_refuses 525 = .ok (.invokestatic 146, 3) := by decide +kernel
theorem dL_refuses_528 : decode cL_refuses 528 = .ok (.ldc 15, 2) := by decide +kernel
theorem dL_refuses_530 : decode cL_refuses 530 = .ok (.if_icmp .ne 20, 3) := by decide +kernel
theorem dL_refuses_533 : decode cL_refuses 533 = .ok (.aload_n 0, 1) := by decide +kernel
theorem dL_refuses_534 : decode cL_refuses 534 = .ok (.iconst 0, 1) := by decide +kernel
theorem dL_refuses_535 : decode cL_refuses 535 = .ok (.iconst 1, 1) := by decide +kernel
theorem dL_refuses_536 : decode cL_refuses 536 = .ok (.bipush 41, 2) := by decide +kernel
theorem dL_refuses_538 : decode cL_refuses 538 = .ok (.invokestatic 146, 3) := by decide +kernel
theorem dL_refuses_541 : decode cL_refuses 541 = .ok (.ldc 15, 2) := by decide +kernel
theorem dL_refuses_543 : decode cL_refuses 543 = .ok (.if_icmp .ne 7, 3) := by decide +kernel
theorem dL_refuses_546 : decode cL_refuses 546 = .ok (.iconst 1, 1) := by decide +kernel
theorem dL_refuses_547 : decode cL_refuses 547 = .ok (.goto 4, 3) := by decide +kernel
theorem dL_refuses_550 : decode cL_refuses 550 = .ok (.iconst 0, 1) := by decide +kernel
theorem dL_refuses_551 : decode cL_refuses 551 = .ok (.istore 5, 2) := by decide +kernel
theorem dL_refuses_553 : decode cL_refuses 553 = .ok (.iload_n 1, 1) := by decide +kernel
theorem dL_refuses_554 : decode cL_refuses 554 = .ok (.bipush 40, 2) := by decide +kernel
theorem dL_refuses_556 : decode cL_refuses 556 = .ok (.irem, 1) := by decide +kernel
theorem dL_refuses_557 : decode cL_refuses 557 = .ok (.istore 6, 2) := by decide +kernel
theorem dL_refuses_559 : decode cL_refuses 559 = .ok (.aload_n 0, 1) := by decide +kernel
theorem dL_refuses_560 : decode cL_refuses 560 = .ok (.iload 6, 2) := by decide +kernel
theorem dL_refuses_562 : decode cL_refuses 562 = .ok (.invokestatic 122, 3) := by decide +kernel
theorem dL_refuses_565 : decode cL_refuses 565 = .ok (.ifCond .lt 7, 3) := by decide +kernel
theorem dL_refuses_568 : decode cL_refuses 568 = .ok (.iconst 1, 1) := by decide +kernel
theorem dL_refuses_569 : decode cL_refuses 569 = .ok (.goto 4, 3) := by decide +kernel
theorem dL_refuses_572 : decode cL_refuses 572 = .ok (.iconst 0, 1) := by decide +kernel
theorem dL_refuses_573 : decode cL_refuses 573 = .ok (.istore 7, 2) := by decide +kernel
theorem dL_refuses_575 : decode cL_refuses 575 = .ok (.iload 5, 2) := by decide +kernel
theorem dL_refuses_577 : decode cL_refuses 577 = .ok (.ifCond .eq 78, 3) := by decide +kernel
theorem dL_refuses_580 : decode cL_refuses 580 = .ok (.iload 7, 2) := by decide +kernel
theorem dL_refuses_582 : decode cL_refuses 582 = .ok (.ifCond .eq 20, 3) := by decide +kernel
theorem dL_refuses_585 : decode cL_refuses 585 = .ok (.aload_n 0, 1) := by decide +kernel
theorem dL_refuses_586 : decode cL_refuses 586 = .ok (.iload 6, 2) := by decide +kernel
theorem dL_refuses_588 : decode cL_refuses 588 = .ok (.iconst 1, 1) := by decide +kernel
theorem dL_refuses_589 : decode cL_refuses 589 = .ok (.iconst 1, 1) := by decide +kernel
theorem dL_refuses_590 : decode cL_refuses 590 = .ok (.iconst 1, 1) := by decide +kernel
theorem dL_refuses_591 : decode cL_refuses 591 = .ok (.invokestatic 108, 3) := by decide +kernel
theorem dL_refuses_594 : decode cL_refuses 594 = .ok (.ldc 18, 2) := by decide +kernel
theorem dL_refuses_596 : decode cL_refuses 596 = .ok (.if_icmp .ne 59, 3) := by decide +kernel
theorem dL_refuses_599 : decode cL_refuses 599 = .ok (.goto 52, 3) := by decide +kernel
theorem dL_refuses_602 : decode cL_refuses 602 = .ok (.aload_n 0, 1) := by decide +kernel
theorem dL_refuses_603 : decode cL_refuses 603 = .ok (.iload 6, 2) := by decide +kernel
theorem dL_refuses_605 : decode cL_refuses 605 = .ok (.iconst 0, 1) := by decide +kernel
theorem dL_refuses_606 : decode cL_refuses 606 = .ok (.iconst 0, 1) := by decide +kernel
theorem dL_refuses_607 : decode cL_refuses 607 = .ok (.invokestatic 113, 3) := by decide +kernel
theorem dL_refuses_610 : decode cL_refuses 610 = .ok (.ldc 25, 2) := by decide +kernel
theorem dL_refuses_612 : decode cL_refuses 612 = .ok (.if_icmp .ne 43, 3) := by decide +kernel
theorem dL_refuses_615 : decode cL_refuses 615 = .ok (.aload_n 0, 1) := by decide +kernel
theorem dL_refuses_616 : decode cL_refuses 616 = .ok (.iload 6, 2) := by decide +kernel
theorem dL_refuses_618 : decode cL_refuses 618 = .ok (.invokestatic 116, 3) := by decide +kernel
theorem dL_refuses_621 : decode cL_refuses 621 = .ok (.ldc 25, 2) := by decide +kernel
theorem dL_refuses_623 : decode cL_refuses 623 = .ok (.if_icmp .ne 32, 3) := by decide +kernel
theorem dL_refuses_626 : decode cL_refuses 626 = .ok (.aload_n 0, 1) := by decide +kernel
theorem dL_refuses_627 : decode cL_refuses 627 = .ok (.iload 6, 2) := by decide +kernel
theorem dL_refuses_629 : decode cL_refuses 629 = .ok (.iconst 2, 1) := by decide +kernel
theorem dL_refuses_630 : decode cL_refuses 630 = .ok (.invokestatic 119, 3) := by decide +kernel
theorem dL_refuses_633 : decode cL_refuses 633 = .ok (.ldc 25, 2) := by decide +kernel
theorem dL_refuses_635 : decode cL_refuses 635 = .ok (.if_icmp .ne 20, 3) := by decide +kernel
theorem dL_refuses_638 : decode cL_refuses 638 = .ok (.aload_n 0, 1) := by decide +kernel
theorem dL_refuses_639 : decode cL_refuses 639 = .ok (.iload 6, 2) := by decide +kernel
theorem dL_refuses_641 : decode cL_refuses 641 = .ok (.iconst 1, 1) := by decide +kernel
theorem dL_refuses_642 : decode cL_refuses 642 = .ok (.iconst 0, 1) := by decide +kernel
theorem dL_refuses_643 : decode cL_refuses 643 = .ok (.invokestatic 126, 3) := by decide +kernel
theorem dL_refuses_646 : decode cL_refuses 646 = .ok (.ldc 25, 2) := by decide +kernel
theorem dL_refuses_648 : decode cL_refuses 648 = .ok (.if_icmp .ne 7, 3) := by decide +kernel
theorem dL_refuses_651 : decode cL_refuses 651 = .ok (.iconst 1, 1) := by decide +kernel
theorem dL_refuses_652 : decode cL_refuses 652 = .ok (.goto 4, 3) := by decide +kernel
theorem dL_refuses_655 : decode cL_refuses 655 = .ok (.iconst 0, 1) := by decide +kernel
theorem dL_refuses_656 : decode cL_refuses 656 = .ok (.istore 5, 2) := by decide +kernel
theorem dL_refuses_658 : decode cL_refuses 658 = .ok (.iconst 0, 1) := by decide +kernel
theorem dL_refuses_659 : decode cL_refuses 659 = .ok (.istore 8, 2) := by decide +kernel
theorem dL_refuses_661 : decode cL_refuses 661 = .ok (.iload 8, 2) := by decide +kernel
theorem dL_refuses_663 : decode cL_refuses 663 = .ok (.iconst 4, 1) := by decide +kernel
theorem dL_refuses_664 : decode cL_refuses 664 = .ok (.if_icmp .ge 95, 3) := by decide +kernel
theorem dL_refuses_667 : decode cL_refuses 667 = .ok (.iload 5, 2) := by decide +kernel
theorem dL_refuses_669 : decode cL_refuses 669 = .ok (.ifCond .eq 90, 3) := by decide +kernel
theorem dL_refuses_672 : decode cL_refuses 672 = .ok (.aload_n 0, 1) := by decide +kernel
theorem dL_refuses_673 : decode cL_refuses 673 = .ok (.invokevirtual 149, 3) := by decide +kernel
theorem dL_refuses_676 : decode cL_refuses 676 = .ok (.iload 8, 2) := by decide +kernel
theorem dL_refuses_678 : decode cL_refuses 678 = .ok (.if_icmp .eq 68, 3) := by decide +kernel
theorem dL_refuses_681 : decode cL_refuses 681 = .ok (.aload_n 0, 1) := by decide +kernel
theorem dL_refuses_682 : decode cL_refuses 682 = .ok (.iload 8, 2) := by decide +kernel
theorem dL_refuses_684 : decode cL_refuses 684 = .ok (.invokestatic 131, 3) := by decide +kernel
theorem dL_refuses_687 : decode cL_refuses 687 = .ok (.ldc 18, 2) := by decide +kernel
theorem dL_refuses_689 : decode cL_refuses 689 = .ok (.if_icmp .ne 61, 3) := by decide +kernel
theorem dL_refuses_692 : decode cL_refuses 692 = .ok (.aload_n 0, 1) := by decide +kernel
theorem dL_refuses_693 : decode cL_refuses 693 = .ok (.iload 8, 2) := by decide +kernel
theorem dL_refuses_695 : decode cL_refuses 695 = .ok (.invokestatic 140, 3) := by decide +kernel
theorem dL_refuses_698 : decode cL_refuses 698 = .ok (.ldc 18, 2) := by decide +kernel
theorem dL_refuses_700 : decode cL_refuses 700 = .ok (.if_icmp .ne 50, 3) := by decide +kernel
theorem dL_refuses_703 : decode cL_refuses 703 = .ok (.aload_n 0, 1) := by decide +kernel
theorem dL_refuses_704 : decode cL_refuses 704 = .ok (.iload 8, 2) := by decide +kernel
theorem dL_refuses_706 : decode cL_refuses 706 = .ok (.invokestatic 143, 3) := by decide +kernel
theorem dL_refuses_709 : decode cL_refuses 709 = .ok (.ldc 18, 2) := by decide +kernel
theorem dL_refuses_711 : decode cL_refuses 711 = .ok (.if_icmp .ne 39, 3) := by decide +kernel
theorem dL_refuses_714 : decode cL_refuses 714 = .ok (.aload_n 0, 1) := by decide +kernel
theorem dL_refuses_715 : decode cL_refuses 715 = .ok (.iload 8, 2) := by decide +kernel
theorem dL_refuses_717 : decode cL_refuses 717 = .ok (.iconst 5, 1) := by decide +kernel
theorem dL_refuses_718 : decode cL_refuses 718 = .ok (.iconst 0, 1) := by decide +kernel
theorem dL_refuses_719 : decode cL_refuses 719 = .ok (.invokestatic 146, 3) := by decide +kernel
theorem dL_refuses_722 : decode cL_refuses 722 = .ok (.ldc 18, 2) := by decide +kernel
theorem dL_refuses_724 : decode cL_refuses 724 = .ok (.if_icmp .ne 26, 3) := by decide +kernel
theorem dL_refuses_727 : decode cL_refuses 727 = .ok (.aload_n 0, 1) := by decide +kernel
theorem dL_refuses_728 : decode cL_refuses 728 = .ok (.invokevirtual 149, 3) := by decide +kernel
theorem dL_refuses_731 : decode cL_refuses 731 = .ok (.ifCond .lt 15, 3) := by decide +kernel
theorem dL_refuses_734 : decode cL_refuses 734 = .ok (.aload_n 0, 1) := by decide +kernel
theorem dL_refuses_735 : decode cL_refuses 735 = .ok (.iload 8, 2) := by decide +kernel
theorem dL_refuses_737 : decode cL_refuses 737 = .ok (.iconst 5, 1) := by decide +kernel
theorem dL_refuses_738 : decode cL_refuses 738 = .ok (.invokestatic 128, 3) := by decide +kernel
theorem dL_refuses_741 : decode cL_refuses 741 = .ok (.ldc 18, 2) := by decide +kernel
theorem dL_refuses_743 : decode cL_refuses 743 = .ok (.if_icmp .ne 7, 3) := by decide +kernel
theorem dL_refuses_746 : decode cL_refuses 746 = .ok (.iconst 1, 1) := by decide +kernel
theorem dL_refuses_747 : decode cL_refuses 747 = .ok (.goto 4, 3) := by decide +kernel
theorem dL_refuses_750 : decode cL_refuses 750 = .ok (.iconst 0, 1) := by decide +kernel
theorem dL_refuses_751 : decode cL_refuses 751 = .ok (.istore 5, 2) := by decide +kernel
theorem dL_refuses_753 : decode cL_refuses 753 = .ok (.iinc 8 1, 3) := by decide +kernel
theorem dL_refuses_756 : decode cL_refuses 756 = .ok (.goto (-95), 3) := by decide +kernel
theorem dL_refuses_759 : decode cL_refuses 759 = .ok (.iload 5, 2) := by decide +kernel
theorem dL_refuses_761 : decode cL_refuses 761 = .ok (.ireturn, 1) := by decide +kernel
set_option maxRecDepth 20000 in
theorem ggL_alike_X3_level : GoodIn wsL_alike wsX3_level := goodIn_r _ [5, 6, 91, 92, 93, 94, 95, 96, 97] (by decide +kernel) (by decide +kernel)
set_option maxRecDepth 20000 in
theorem gL_alike_X3_level : GoodIn wsL_alike (wsV RL 152 RX3 yX3_level wsX3_level) := goodIn_app (goodIn_of _ (by decide +kernel)) ggL_alike_X3_level
set_option maxRecDepth 20000 in
theorem ggL_alike_X3_changes : GoodIn wsL_alike wsX3_changes := goodIn_r _ [10, 11, 12, 13, 14, 15, 16, 17, 91, 92, 93, 94, 95, 96, 97, 98, 99, 100, 101, 102] (by decide +kernel) (by decide +kernel)
set_option maxRecDepth 20000 in
theorem gL_alike_X3_changes : GoodIn wsL_alike (wsV RL 89 RX3 yX3_changes wsX3_changes) := goodIn_app (goodIn_of _ (by decide +kernel)) ggL_alike_X3_changes
set_option maxRecDepth 20000 in
theorem ggL_alike_X3_drifted : GoodIn wsL_alike wsX3_drifted := goodIn_r _ [21, 11, 6, 22, 23, 24, 15, 25, 26, 27, 28, 29, 30, 31, 32, 33, 34, 35, 36, 37, 38, 91, 92, 93, 94, 95, 96, 97, 98, 99, 100, 101, 102] (by decide +kernel) (by decide +kernel)
set_option maxRecDepth 20000 in
theorem gL_alike_X3_drifted : GoodIn wsL_alike (wsV RL 155 RX3 yX3_drifted wsX3_drifted) := goodIn_app (goodIn_of _ (by decide +kernel)) ggL_alike_X3_drifted
set_option maxRecDepth 20000 in
theorem ggL_alike_L_version : GoodIn wsL_alike wsL_version := goodIn_ca (goodIn_r _ [42, 43, 44, 45, 46, 47, 4, 48, 49, 50, 51, 52, 53, 54, 55, 56, 57, 58, 59, 60, 91, 92, 93, 94, 95, 96, 97, 103, 104] (by decide +kernel) (by decide +kernel)) (goodIn_sub (fun _ h => List.mem_cons_of_mem _ (List.mem_append_left _ (List.mem_append_right _ h))) (by decide +kernel))
set_option maxRecDepth 20000 in
theorem gL_alike_L_version : GoodIn wsL_alike (va_wsS RL 122 yL_version wsL_version) := goodIn_app (goodIn_of _ (by decide +kernel)) ggL_alike_L_version
set_option maxRecDepth 20000 in
theorem ggL_alike_L_value : GoodIn wsL_alike wsL_value := goodIn_ca (goodIn_ca (goodIn_r _ [63, 43, 64, 44, 65, 66, 67, 68, 4, 69, 49, 50, 51, 52, 53, 54, 70, 71, 72, 73, 74, 75, 76, 77, 78, 79, 80, 81, 82, 83, 84, 58, 85, 60, 86, 87, 88, 89, 90, 91, 92, 93, 94, 95, 96, 97, 103, 104] (by decide +kernel) (by decide +kernel)) (goodIn_sub (fun _ h => List.mem_cons_of_mem _ (List.mem_append_left _ (List.mem_append_right _ h))) (by decide +kernel))) (goodIn_sub (fun _ h => List.mem_cons_of_mem _ (List.mem_append_right _ h)) (by decide +kernel))
set_option maxRecDepth 20000 in
theorem gL_alike_L_value : GoodIn wsL_alike (va_wsS RL 119 yL_value wsL_value) := goodIn_app (goodIn_of _ (by decide +kernel)) ggL_alike_L_value
theorem dL_alike_0 : decode cL_alike 0 = .ok (.aload_n 0, 1) := by decide +kernel
theorem dL_alike_1 : decode cL_alike 1 = .ok (.invokevirtual 152, 3) := by decide +kernel
