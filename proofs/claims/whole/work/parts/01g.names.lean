theorem dX4_share_48 : decode cX4_share 48 = .ok (.iconst 0, 1) := by decide +kernel
theorem dX4_share_49 : decode cX4_share 49 = .ok (.iadd, 1) := by decide +kernel
theorem dX4_share_50 : decode cX4_share 50 = .ok (.istore_n 2, 1) := by decide +kernel
theorem dX4_share_51 : decode cX4_share 51 = .ok (.iinc 3 1, 3) := by decide +kernel
theorem dX4_share_54 : decode cX4_share 54 = .ok (.goto (-48), 3) := by decide +kernel
theorem dX4_share_57 : decode cX4_share 57 = .ok (.aload_n 0, 1) := by decide +kernel
theorem dX4_share_58 : decode cX4_share 58 = .ok (.aload_n 0, 1) := by decide +kernel
theorem dX4_share_59 : decode cX4_share 59 = .ok (.getfield 69, 3) := by decide +kernel
theorem dX4_share_62 : decode cX4_share 62 = .ok (.ifCond .eq 7, 3) := by decide +kernel
theorem dX4_share_65 : decode cX4_share 65 = .ok (.iload_n 1, 1) := by decide +kernel
theorem dX4_share_66 : decode cX4_share 66 = .ok (.ifCond .ne 7, 3) := by decide +kernel
theorem dX4_share_69 : decode cX4_share 69 = .ok (.iconst 1, 1) := by decide +kernel
theorem dX4_share_70 : decode cX4_share 70 = .ok (.goto 4, 3) := by decide +kernel
theorem dX4_share_73 : decode cX4_share 73 = .ok (.iconst 0, 1) := by decide +kernel
theorem dX4_share_74 : decode cX4_share 74 = .ok (.invokevirtual 58, 3) := by decide +kernel
theorem dX4_share_77 : decode cX4_share 77 = .ok (.ifCond .eq 7, 3) := by decide +kernel
theorem dX4_share_80 : decode cX4_share 80 = .ok (.fconst 0, 1) := by decide +kernel
theorem dX4_share_81 : decode cX4_share 81 = .ok (.goto 8, 3) := by decide +kernel
theorem dX4_share_84 : decode cX4_share 84 = .ok (.iload_n 2, 1) := by decide +kernel
theorem dX4_share_85 : decode cX4_share 85 = .ok (.i2f, 1) := by decide +kernel
theorem dX4_share_86 : decode cX4_share 86 = .ok (.iload_n 1, 1) := by decide +kernel
theorem dX4_share_87 : decode cX4_share 87 = .ok (.i2f, 1) := by decide +kernel
theorem dX4_share_88 : decode cX4_share 88 = .ok (.fdiv, 1) := by decide +kernel
theorem dX4_share_89 : decode cX4_share 89 = .ok (.freturn, 1) := by decide +kernel
theorem dJ9_min_7cf53_0 : decode cJ9_min_7cf53 0 = .ok (.iload_n 0, 1) := by decide +kernel
theorem dJ9_min_7cf53_1 : decode cJ9_min_7cf53 1 = .ok (.iload_n 1, 1) := by decide +kernel
theorem dJ9_min_7cf53_2 : decode cJ9_min_7cf53 2 = .ok (.if_icmp .gt 7, 3) := by decide +kernel
theorem dJ9_min_7cf53_5 : decode cJ9_min_7cf53 5 = .ok (.iload_n 0, 1) := by decide +kernel
theorem dJ9_min_7cf53_6 : decode cJ9_min_7cf53 6 = .ok (.goto 4, 3) := by decide +kernel
theorem dJ9_min_7cf53_9 : decode cJ9_min_7cf53 9 = .ok (.iload_n 1, 1) := by decide +kernel
theorem dJ9_min_7cf53_10 : decode cJ9_min_7cf53 10 = .ok (.ireturn, 1) := by decide +kernel
set_option maxRecDepth 20000 in
theorem ggL_addChange_X3_addChange : GoodIn wsL_addChange wsX3_addChange := goodIn_ca (goodIn_ca (goodIn_r _ [7, 8, 9, 10, 11, 12, 6, 13, 14, 15, 16, 17, 18, 19, 20, 21, 22, 23, 24, 25, 26, 27, 28, 29, 30, 31, 32, 33, 34, 35, 36, 37, 38, 39, 40, 41, 42, 43, 44, 45, 46, 47, 48, 49, 50, 51, 52, 53] (by decide +kernel) (by decide +kernel)) (goodIn_sub (fun _ h => List.mem_cons_of_mem _ (List.mem_append_left _ (List.mem_append_right _ h))) (by decide +kernel))) (goodIn_sub (fun _ h => List.mem_cons_of_mem _ (List.mem_append_right _ h)) (by decide +kernel))
set_option maxRecDepth 20000 in
theorem gL_addChange_X3_addChange : GoodIn wsL_addChange (wsV RL 7 RX3 yX3_addChange wsX3_addChange) := goodIn_app (goodIn_of _ (by decide +kernel)) ggL_addChange_X3_addChange
theorem dL_addChange_0 : decode cL_addChange 0 = .ok (.aload 4, 2) := by decide +kernel
theorem dL_addChange_2 : decode cL_addChange 2 = .ok (.iconst 0, 1) := by decide +kernel
theorem dL_addChange_3 : decode cL_addChange 3 = .ok (.aload_n 0, 1) := by decide +kernel
theorem dL_addChange_4 : decode cL_addChange 4 = .ok (.iload_n 1, 1) := by decide +kernel
theorem dL_addChange_5 : decode cL_addChange 5 = .ok (.iload_n 2, 1) := by decide +kernel
theorem dL_addChange_6 : decode cL_addChange 6 = .ok (.iload_n 3, 1) := by decide +kernel
theorem dL_addChange_7 : decode cL_addChange 7 = .ok (.invokevirtual 7, 3) := by decide +kernel
theorem dL_addChange_10 : decode cL_addChange 10 = .ok (.i2l, 1) := by decide +kernel
theorem dL_addChange_11 : decode cL_addChange 11 = .ok (.lastore, 1) := by decide +kernel
theorem dL_addChange_12 : decode cL_addChange 12 = .ok (.goto 11, 3) := by decide +kernel
theorem dL_addChange_15 : decode cL_addChange 15 = .ok (.astore 5, 2) := by decide +kernel
theorem dL_addChange_17 : decode cL_addChange 17 = .ok (.iconst 1, 1) := by decide +kernel
theorem dL_addChange_18 : decode cL_addChange 18 = .ok (.ireturn, 1) := by decide +kernel
theorem dL_addChange_19 : decode cL_addChange 19 = .ok (.astore 5, 2) := by decide +kernel
theorem dL_addChange_21 : decode cL_addChange 21 = .ok (.iconst 2, 1) := by decide +kernel
theorem dL_addChange_22 : decode cL_addChange 22 = .ok (.ireturn, 1) := by decide +kernel
theorem dL_addChange_23 : decode cL_addChange 23 = .ok (.iconst 0, 1) := by decide +kernel
theorem dL_addChange_24 : decode cL_addChange 24 = .ok (.ireturn, 1) := by decide +kernel
set_option maxRecDepth 20000 in
theorem ggL_edit_X3_edit : GoodIn wsL_edit wsX3_edit := goodIn_ca (goodIn_ca (goodIn_ca (goodIn_r _ [8, 9, 10, 11, 12, 13, 7, 14, 15, 16, 17, 18, 19, 20, 21, 22, 23, 24, 25, 26, 27, 28, 29, 30, 31, 32, 33, 34, 35, 36, 37, 38, 39, 40, 41, 42, 43, 44, 45, 46, 47, 48, 49, 50, 51, 52, 53, 54, 55, 56, 57, 58, 59, 60, 61, 62, 63, 64, 65, 66, 67, 68, 69, 70, 71] (by decide +kernel) (by decide +kernel)) (goodIn_sub (fun _ h => List.mem_cons_of_mem _ (List.mem_append_left _ (List.mem_append_left _ (List.mem_append_right _ h)))) (by decide +kernel))) (goodIn_sub (fun _ h => List.mem_cons_of_mem _ (List.mem_append_left _ (List.mem_append_right _ h))) (by decide +kernel))) (goodIn_sub (fun _ h => List.mem_cons_of_mem _ (List.mem_append_right _ h)) (by decide +kernel))
set_option maxRecDepth 20000 in
theorem gL_edit_X3_edit : GoodIn wsL_edit (wsV RL 17 RX3 yX3_edit wsX3_edit) := goodIn_app (goodIn_of _ (by decide +kernel)) ggL_edit_X3_edit
theorem dL_edit_0 : decode cL_edit 0 = .ok (.aload 5, 2) := by decide +kernel
theorem dL_edit_2 : decode cL_edit 2 = .ok (.iconst 0, 1) := by decide +kernel
theorem dL_edit_3 : decode cL_edit 3 = .ok (.aload_n 0, 1) := by decide +kernel
theorem dL_edit_4 : decode cL_edit 4 = .ok (.iload_n 1, 1) := by decide +kernel
theorem dL_edit_5 : decode cL_edit 5 = .ok (.iload_n 2, 1) := by decide +kernel
theorem dL_edit_6 : decode cL_edit 6 = .ok (.iload_n 3, 1) := by decide +kernel
theorem dL_edit_7 : decode cL_edit 7 = .ok (.iload 4, 2) := by decide +kernel
theorem dL_edit_9 : decode cL_edit 9 = .ok (.invokevirtual 17, 3) := by decide +kernel
theorem dL_edit_12 : decode cL_edit 12 = .ok (.i2l, 1) := by decide +kernel
theorem dL_edit_13 : decode cL_edit 13 = .ok (.lastore, 1) := by decide +kernel
theorem dL_edit_14 : decode cL_edit 14 = .ok (.goto 15, 3) := by decide +kernel
theorem dL_edit_17 : decode cL_edit 17 = .ok (.astore 6, 2) := by decide +kernel
theorem dL_edit_19 : decode cL_edit 19 = .ok (.iconst 1, 1) := by decide +kernel
theorem dL_edit_20 : decode cL_edit 20 = .ok (.ireturn, 1) := by decide +kernel
theorem dL_edit_21 : decode cL_edit 21 = .ok (.astore 6, 2) := by decide +kernel
theorem dL_edit_23 : decode cL_edit 23 = .ok (.iconst 2, 1) := by decide +kernel
theorem dL_edit_24 : decode cL_edit 24 = .ok (.ireturn, 1) := by decide +kernel
theorem dL_edit_25 : decode cL_edit 25 = .ok (.astore 6, 2) := by decide +kernel
theorem dL_edit_27 : decode cL_edit 27 = .ok (.iconst 3, 1) := by decide +kernel
theorem dL_edit_28 : decode cL_edit 28 = .ok (.ireturn, 1) := by decide +kernel
theorem dL_edit_29 : decode cL_edit 29 = .ok (.iconst 0, 1) := by decide +kernel
theorem dL_edit_30 : decode cL_edit 30 = .ok (.ireturn, 1) := by decide +kernel
set_option maxRecDepth 20000 in
theorem ggL_checksum_X3_checksum : GoodIn wsL_checksum wsX3_checksum := goodIn_ca (goodIn_r _ [6, 7, 8, 9, 10, 5, 11, 12, 13, 14, 15, 16, 17, 18, 19, 20, 21, 22, 23, 24, 25, 26, 27, 28, 29, 30, 31, 32, 33, 34, 35, 36, 37, 38, 39] (by decide +kernel) (by decide +kernel)) (goodIn_sub (fun _ h => List.mem_cons_of_mem _ (List.mem_append_right _ h)) (by decide +kernel))
set_option maxRecDepth 20000 in
theorem gL_checksum_X3_checksum : GoodIn wsL_checksum (wsV RL 23 RX3 yX3_checksum wsX3_checksum) := goodIn_app (goodIn_of _ (by decide +kernel)) ggL_checksum_X3_checksum
theorem dL_checksum_0 : decode cL_checksum 0 = .ok (.aload_n 2, 1) := by decide +kernel
theorem dL_checksum_1 : decode cL_checksum 1 = .ok (.iconst 0, 1) := by decide +kernel
theorem dL_checksum_2 : decode cL_checksum 2 = .ok (.aload_n 0, 1) := by decide +kernel
theorem dL_checksum_3 : decode cL_checksum 3 = .ok (.iload_n 1, 1) := by decide +kernel
theorem dL_checksum_4 : decode cL_checksum 4 = .ok (.invokevirtual 23, 3) := by decide +kernel
theorem dL_checksum_7 : decode cL_checksum 7 = .ok (.i2l, 1) := by decide +kernel
theorem dL_checksum_8 : decode cL_checksum 8 = .ok (.lastore, 1) := by decide +kernel
theorem dL_checksum_9 : decode cL_checksum 9 = .ok (.goto 6, 3) := by decide +kernel
theorem dL_checksum_12 : decode cL_checksum 12 = .ok (.astore_n 3, 1) := by decide +kernel
theorem dL_checksum_13 : decode cL_checksum 13 = .ok (.iconst 1, 1) := by decide +kernel
theorem dL_checksum_14 : decode cL_checksum 14 = .ok (.ireturn, 1) := by decide +kernel
theorem dL_checksum_15 : decode cL_checksum 15 = .ok (.iconst 0, 1) := by decide +kernel
theorem dL_checksum_16 : decode cL_checksum 16 = .ok (.ireturn, 1) := by decide +kernel
set_option maxRecDepth 20000 in
theorem ggL_state_X3_state : GoodIn wsL_state wsX3_state := goodIn_ca (goodIn_r _ [6, 7, 8, 9, 10, 11, 5, 12, 13, 14, 15, 16, 17, 18, 19, 20, 21, 22, 23, 24, 25, 26, 27, 28, 29, 30, 31, 32, 33, 34, 35, 36, 37] (by decide +kernel) (by decide +kernel)) (goodIn_sub (fun _ h => List.mem_cons_of_mem _ (List.mem_append_right _ h)) (by decide +kernel))
set_option maxRecDepth 20000 in
theorem gL_state_X3_state : GoodIn wsL_state (wsV RL 27 RX3 yX3_state wsX3_state) := goodIn_app (goodIn_of _ (by decide +kernel)) ggL_state_X3_state
theorem dL_state_0 : decode cL_state 0 = .ok (.aload_n 2, 1) := by decide +kernel
theorem dL_state_1 : decode cL_state 1 = .ok (.iconst 0, 1) := by decide +kernel
theorem dL_state_2 : decode cL_state 2 = .ok (.aload_n 0, 1) := by decide +kernel
theorem dL_state_3 : decode cL_state 3 = .ok (.iload_n 1, 1) := by decide +kernel
theorem dL_state_4 : decode cL_state 4 = .ok (.invokevirtual 27, 3) := by decide +kernel
theorem dL_state_7 : decode cL_state 7 = .ok (.i2l, 1) := by decide +kernel
theorem dL_state_8 : decode cL_state 8 = .ok (.lastore, 1) := by decide +kernel
theorem dL_state_9 : decode cL_state 9 = .ok (.goto 6, 3) := by decide +kernel
theorem dL_state_12 : decode cL_state 12 = .ok (.astore_n 3, 1) := by decide +kernel
theorem dL_state_13 : decode cL_state 13 = .ok (.iconst 1, 1) := by decide +kernel
theorem dL_state_14 : decode cL_state 14 = .ok (.ireturn, 1) := by decide +kernel
theorem dL_state_15 : decode cL_state 15 = .ok (.iconst 0, 1) := by decide +kernel
theorem dL_state_16 : decode cL_state 16 = .ok (.ireturn, 1) := by decide +kernel
set_option maxRecDepth 20000 in
theorem ggL_insert_X3_insert : GoodIn wsL_insert wsX3_insert := goodIn_ca (goodIn_ca (goodIn_r _ [7, 8, 9, 10, 11, 12, 6, 13, 14, 15, 16, 17, 18, 19, 20, 21, 22, 23, 24, 25, 26, 27, 28, 29, 30, 31, 32, 33, 34, 35, 36, 37, 38, 39, 40, 41, 42, 43, 44, 45, 46, 47, 48, 49, 50, 51, 52, 53, 54, 55, 56, 57, 58, 59, 60, 61, 62] (by decide +kernel) (by decide +kernel)) (goodIn_sub (fun _ h => List.mem_cons_of_mem _ (List.mem_append_left _ (List.mem_append_right _ h))) (by decide +kernel))) (goodIn_sub (fun _ h => List.mem_cons_of_mem _ (List.mem_append_right _ h)) (by decide +kernel))
set_option maxRecDepth 20000 in
theorem gL_insert_X3_insert : GoodIn wsL_insert (wsV RL 30 RX3 yX3_insert wsX3_insert) := goodIn_app (goodIn_of _ (by decide +kernel)) ggL_insert_X3_insert
theorem dL_insert_0 : decode cL_insert 0 = .ok (.aload 5, 2) := by decide +kernel
theorem dL_insert_2 : decode cL_insert 2 = .ok (.iconst 0, 1) := by decide +kernel
theorem dL_insert_3 : decode cL_insert 3 = .ok (.aload_n 0, 1) := by decide +kernel
theorem dL_insert_4 : decode cL_insert 4 = .ok (.iload_n 1, 1) := by decide +kernel
theorem dL_insert_5 : decode cL_insert 5 = .ok (.iload_n 2, 1) := by decide +kernel
theorem dL_insert_6 : decode cL_insert 6 = .ok (.iload_n 3, 1) := by decide +kernel
theorem dL_insert_7 : decode cL_insert 7 = .ok (.iload 4, 2) := by decide +kernel
theorem dL_insert_9 : decode cL_insert 9 = .ok (.invokevirtual 30, 3) := by decide +kernel
theorem dL_insert_12 : decode cL_insert 12 = .ok (.i2l, 1) := by decide +kernel
theorem dL_insert_13 : decode cL_insert 13 = .ok (.lastore, 1) := by decide +kernel
theorem dL_insert_14 : decode cL_insert 14 = .ok (.goto 11, 3) := by decide +kernel
theorem dL_insert_17 : decode cL_insert 17 = .ok (.astore 6, 2) := by decide +kernel
theorem dL_insert_19 : decode cL_insert 19 = .ok (.iconst 1, 1) := by decide +kernel
theorem dL_insert_20 : decode cL_insert 20 = .ok (.ireturn, 1) := by decide +kernel
theorem dL_insert_21 : decode cL_insert 21 = .ok (.astore 6, 2) := by decide +kernel
theorem dL_insert_23 : decode cL_insert 23 = .ok (.iconst 2, 1) := by decide +kernel
theorem dL_insert_24 : decode cL_insert 24 = .ok (.ireturn, 1) := by decide +kernel
theorem dL_insert_25 : decode cL_insert 25 = .ok (.iconst 0, 1) := by decide +kernel
theorem dL_insert_26 : decode cL_insert 26 = .ok (.ireturn, 1) := by decide +kernel
set_option maxRecDepth 20000 in
theorem ggL_write_X3_write : GoodIn wsL_write wsX3_write := goodIn_ca (goodIn_ca (goodIn_r _ [7, 8, 9, 10, 6, 11, 12, 13, 14, 15, 16, 17, 18, 19, 20, 21, 22, 23, 24, 25, 26, 27, 28, 29, 30, 31, 32, 33, 34, 35, 36, 37, 38, 39, 40, 41, 42, 43, 44, 45, 46, 47, 48, 49, 50, 51, 52, 53, 54, 55, 56, 57] (by decide +kernel) (by decide +kernel)) (goodIn_sub (fun _ h => List.mem_cons_of_mem _ (List.mem_append_left _ (List.mem_append_right _ h))) (by decide +kernel))) (goodIn_sub (fun _ h => List.mem_cons_of_mem _ (List.mem_append_right _ h)) (by decide +kernel))
set_option maxRecDepth 20000 in
theorem gL_write_X3_write : GoodIn wsL_write (wsV RL 33 RX3 yX3_write wsX3_write) := goodIn_app (goodIn_of _ (by decide +kernel)) ggL_write_X3_write
theorem dL_write_0 : decode cL_write 0 = .ok (.aload 4, 2) := by decide +kernel
theorem dL_write_2 : decode cL_write 2 = .ok (.iconst 0, 1) := by decide +kernel
theorem dL_write_3 : decode cL_write 3 = .ok (.aload_n 0, 1) := by decide +kernel
theorem dL_write_4 : decode cL_write 4 = .ok (.iload_n 1, 1) := by decide +kernel
theorem dL_write_5 : decode cL_write 5 = .ok (.iload_n 2, 1) := by decide +kernel
theorem dL_write_6 : decode cL_write 6 = .ok (.iload_n 3, 1) := by decide +kernel
theorem dL_write_7 : decode cL_write 7 = .ok (.invokevirtual 33, 3) := by decide +kernel
theorem dL_write_10 : decode cL_write 10 = .ok (.i2l, 1) := by decide +kernel
theorem dL_write_11 : decode cL_write 11 = .ok (.lastore, 1) := by decide +kernel
theorem dL_write_12 : decode cL_write 12 = .ok (.goto 11, 3) := by decide +kernel
theorem dL_write_15 : decode cL_write 15 = .ok (.astore 5, 2) := by decide +kernel
theorem dL_write_17 : decode cL_write 17 = .ok (.iconst 1, 1) := by decide +kernel
theorem dL_write_18 : decode cL_write 18 = .ok (.ireturn, 1) := by decide +kernel
theorem dL_write_19 : decode cL_write 19 = .ok (.astore 5, 2) := by decide +kernel
theorem dL_write_21 : decode cL_write 21 = .ok (.iconst 2, 1) := by decide +kernel
theorem dL_write_22 : decode cL_write 22 = .ok (.ireturn, 1) := by decide +kernel
theorem dL_write_23 : decode cL_write 23 = .ok (.iconst 0, 1) := by decide +kernel
theorem dL_write_24 : decode cL_write 24 = .ok (.ireturn, 1) := by decide +kernel
set_option maxRecDepth 20000 in
theorem ggL_delete_X3_delete : GoodIn wsL_delete wsX3_delete := goodIn_ca (goodIn_ca (goodIn_r _ [7, 8, 9, 10, 6, 11, 12, 13, 14, 15, 16, 17, 18, 19, 20, 21, 22, 23, 24, 25, 26, 27, 28, 29, 30, 31, 32, 33, 34, 35, 36, 37, 38, 39, 40, 41, 42] (by decide +kernel) (by decide +kernel)) (goodIn_sub (fun _ h => List.mem_cons_of_mem _ (List.mem_append_left _ (List.mem_append_right _ h))) (by decide +kernel))) (goodIn_sub (fun _ h => List.mem_cons_of_mem _ (List.mem_append_right _ h)) (by decide +kernel))
set_option maxRecDepth 20000 in
theorem gL_delete_X3_delete : GoodIn wsL_delete (wsV RL 36 RX3 yX3_delete wsX3_delete) := goodIn_app (goodIn_of _ (by decide +kernel)) ggL_delete_X3_delete
theorem dL_delete_0 : decode cL_delete 0 = .ok (.aload_n 2, 1) := by decide +kernel
theorem dL_delete_1 : decode cL_delete 1 = .ok (.iconst 0, 1) := by decide +kernel
theorem dL_delete_2 : decode cL_delete 2 = .ok (.aload_n 0, 1) := by decide +kernel
theorem dL_delete_3 : decode cL_delete 3 = .ok (.iload_n 1, 1) := by decide +kernel
theorem dL_delete_4 : decode cL_delete 4 = .ok (.invokevirtual 36, 3) := by decide +kernel
theorem dL_delete_7 : decode cL_delete 7 = .ok (.i2l, 1) := by decide +kernel
theorem dL_delete_8 : decode cL_delete 8 = .ok (.lastore, 1) := by decide +kernel
theorem dL_delete_9 : decode cL_delete 9 = .ok (.goto 9, 3) := by decide +kernel
theorem dL_delete_12 : decode cL_delete 12 = .ok (.astore_n 3, 1) := by decide +kernel
theorem dL_delete_13 : decode cL_delete 13 = .ok (.iconst 1, 1) := by decide +kernel
theorem dL_delete_14 : decode cL_delete 14 = .ok (.ireturn, 1) := by decide +kernel
theorem dL_delete_15 : decode cL_delete 15 = .ok (.astore_n 3, 1) := by decide +kernel
theorem dL_delete_16 : decode cL_delete 16 = .ok (.iconst 2, 1) := by decide +kernel
theorem dL_delete_17 : decode cL_delete 17 = .ok (.ireturn, 1) := by decide +kernel
theorem dL_delete_18 : decode cL_delete 18 = .ok (.iconst 0, 1) := by decide +kernel
theorem dL_delete_19 : decode cL_delete 19 = .ok (.ireturn, 1) := by decide +kernel
set_option maxRecDepth 20000 in
theorem ggL_value_X3_value : GoodIn wsL_value wsX3_value := goodIn_ca (goodIn_ca (goodIn_r _ [7, 8, 9, 10, 6, 11, 12, 13, 14, 15, 16, 17, 18, 19, 20, 21, 22, 23, 24, 25, 26, 27, 28, 29, 30, 31, 32, 33, 34, 35, 36, 37, 38, 39, 40, 41, 42, 43, 44, 45] (by decide +kernel) (by decide +kernel)) (goodIn_sub (fun _ h => List.mem_cons_of_mem _ (List.mem_append_left _ (List.mem_append_right _ h))) (by decide +kernel))) (goodIn_sub (fun _ h => List.mem_cons_of_mem _ (List.mem_append_right _ h)) (by decide +kernel))
set_option maxRecDepth 20000 in
theorem gL_value_X3_value : GoodIn wsL_value (wsV RL 39 RX3 yX3_value wsX3_value) := goodIn_app (goodIn_of _ (by decide +kernel)) ggL_value_X3_value
theorem dL_value_0 : decode cL_value 0 = .ok (.aload_n 3, 1) := by decide +kernel
theorem dL_value_1 : decode cL_value 1 = .ok (.iconst 0, 1) := by decide +kernel
theorem dL_value_2 : decode cL_value 2 = .ok (.aload_n 0, 1) := by decide +kernel
theorem dL_value_3 : decode cL_value 3 = .ok (.iload_n 1, 1) := by decide +kernel
theorem dL_value_4 : decode cL_value 4 = .ok (.iload_n 2, 1) := by decide +kernel
theorem dL_value_5 : decode cL_value 5 = .ok (.invokevirtual 39, 3) := by decide +kernel
theorem dL_value_8 : decode cL_value 8 = .ok (.i2l, 1) := by decide +kernel
theorem dL_value_9 : decode cL_value 9 = .ok (.lastore, 1) := by decide +kernel
theorem dL_value_10 : decode cL_value 10 = .ok (.goto 11, 3) := by decide +kernel
theorem dL_value_13 : decode cL_value 13 = .ok (.astore 4, 2) := by decide +kernel
theorem dL_value_15 : decode cL_value 15 = .ok (.iconst 1, 1) := by decide +kernel
theorem dL_value_16 : decode cL_value 16 = .ok (.ireturn, 1) := by decide +kernel
theorem dL_value_17 : decode cL_value 17 = .ok (.astore 4, 2) := by decide +kernel
theorem dL_value_19 : decode cL_value 19 = .ok (.iconst 2, 1) := by decide +kernel
theorem dL_value_20 : decode cL_value 20 = .ok (.ireturn, 1) := by decide +kernel
theorem dL_value_21 : decode cL_value 21 = .ok (.iconst 0, 1) := by decide +kernel
theorem dL_value_22 : decode cL_value 22 = .ok (.ireturn, 1) := by decide +kernel
set_option maxRecDepth 20000 in
theorem ggL_version_X3_version : GoodIn wsL_version wsX3_version := goodIn_ca (goodIn_r _ [6, 7, 8, 9, 5, 10, 11, 12, 13, 14, 15, 16, 17, 18, 19, 20, 21, 22, 23, 24, 25, 26, 27] (by decide +kernel) (by decide +kernel)) (goodIn_sub (fun _ h => List.mem_cons_of_mem _ (List.mem_append_right _ h)) (by decide +kernel))
set_option maxRecDepth 20000 in
theorem gL_version_X3_version : GoodIn wsL_version (wsV RL 43 RX3 yX3_version wsX3_version) := goodIn_app (goodIn_of _ (by decide +kernel)) ggL_version_X3_version
theorem dL_version_0 : decode cL_version 0 = .ok (.aload_n 2, 1) := by decide +kernel
theorem dL_version_1 : decode cL_version 1 = .ok (.iconst 0, 1) := by decide +kernel
theorem dL_version_2 : decode cL_version 2 = .ok (.aload_n 0, 1) := by decide +kernel
theorem dL_version_3 : decode cL_version 3 = .ok (.iload_n 1, 1) := by decide +kernel
theorem dL_version_4 : decode cL_version 4 = .ok (.invokevirtual 43, 3) := by decide +kernel
theorem dL_version_7 : decode cL_version 7 = .ok (.i2l, 1) := by decide +kernel
theorem dL_version_8 : decode cL_version 8 = .ok (.lastore, 1) := by decide +kernel
theorem dL_version_9 : decode cL_version 9 = .ok (.goto 6, 3) := by decide +kernel
theorem dL_version_12 : decode cL_version 12 = .ok (.astore_n 3, 1) := by decide +kernel
theorem dL_version_13 : decode cL_version 13 = .ok (.iconst 1, 1) := by decide +kernel
theorem dL_version_14 : decode cL_version 14 = .ok (.ireturn, 1) := by decide +kernel
theorem dL_version_15 : decode cL_version 15 = .ok (.iconst 0, 1) := by decide +kernel
theorem dL_version_16 : decode cL_version 16 = .ok (.ireturn, 1) := by decide +kernel
set_option maxRecDepth 20000 in
theorem ggL_rowsAt_X3_rowsAt : GoodIn wsL_rowsAt wsX3_rowsAt := goodIn_ca (goodIn_r _ [6, 7, 8, 9, 10, 11, 12, 13, 14, 15, 16, 17, 18, 19, 20, 21, 22, 23, 24] (by decide +kernel) (by decide +kernel)) (goodIn_sub (fun _ h => List.mem_cons_of_mem _ (List.mem_append_right _ h)) (by decide +kernel))
set_option maxRecDepth 20000 in
theorem gL_rowsAt_X3_rowsAt : GoodIn wsL_rowsAt (wsV RL 46 RX3 yX3_rowsAt wsX3_rowsAt) := goodIn_app (goodIn_of _ (by decide +kernel)) ggL_rowsAt_X3_rowsAt
theorem dL_rowsAt_0 : decode cL_rowsAt 0 = .ok (.aload_n 2, 1) := by decide +kernel
theorem dL_rowsAt_1 : decode cL_rowsAt 1 = .ok (.iconst 0, 1) := by decide +kernel
theorem dL_rowsAt_2 : decode cL_rowsAt 2 = .ok (.aload_n 0, 1) := by decide +kernel
theorem dL_rowsAt_3 : decode cL_rowsAt 3 = .ok (.iload_n 1, 1) := by decide +kernel
theorem dL_rowsAt_4 : decode cL_rowsAt 4 = .ok (.invokevirtual 46, 3) := by decide +kernel
theorem dL_rowsAt_7 : decode cL_rowsAt 7 = .ok (.i2l, 1) := by decide +kernel
theorem dL_rowsAt_8 : decode cL_rowsAt 8 = .ok (.lastore, 1) := by decide +kernel
theorem dL_rowsAt_9 : decode cL_rowsAt 9 = .ok (.goto 6, 3) := by decide +kernel
theorem dL_rowsAt_12 : decode cL_rowsAt 12 = .ok (.astore_n 3, 1) := by decide +kernel
theorem dL_rowsAt_13 : decode cL_rowsAt 13 = .ok (.iconst 1, 1) := by decide +kernel
theorem dL_rowsAt_14 : decode cL_rowsAt 14 = .ok (.ireturn, 1) := by decide +kernel
theorem dL_rowsAt_15 : decode cL_rowsAt 15 = .ok (.iconst 0, 1) := by decide +kernel
theorem dL_rowsAt_16 : decode cL_rowsAt 16 = .ok (.ireturn, 1) := by decide +kernel
set_option maxRecDepth 20000 in
theorem ggL_valueAt_X3_valueAt : GoodIn wsL_valueAt wsX3_valueAt := goodIn_ca (goodIn_ca (goodIn_ca (goodIn_r _ [8, 9, 10, 11, 12, 13, 14, 15, 16, 17, 7, 18, 19, 20, 21, 22, 23, 24, 25, 26, 27, 28, 29, 30, 31, 32, 33, 34, 35, 36, 37, 38, 39, 40, 41, 42, 43, 44, 45, 46, 47, 48, 49, 50, 51, 52, 53, 54, 55, 56, 57, 58, 59, 60, 61, 62, 63, 64, 65, 66, 67, 68, 69, 70, 71, 72, 73, 74, 75, 76, 77, 78, 79, 80, 81, 82, 83, 84, 85, 86, 87, 88, 89, 90, 91, 92, 93, 94] (by decide +kernel) (by decide +kernel)) (goodIn_sub (fun _ h => List.mem_cons_of_mem _ (List.mem_append_left _ (List.mem_append_left _ (List.mem_append_right _ h)))) (by decide +kernel))) (goodIn_sub (fun _ h => List.mem_cons_of_mem _ (List.mem_append_left _ (List.mem_append_right _ h))) (by decide +kernel))) (goodIn_sub (fun _ h => List.mem_cons_of_mem _ (List.mem_append_right _ h)) (by decide +kernel))
set_option maxRecDepth 20000 in
theorem gL_valueAt_X3_valueAt : GoodIn wsL_valueAt (wsV RL 49 RX3 yX3_valueAt wsX3_valueAt) := goodIn_app (goodIn_of _ (by decide +kernel)) ggL_valueAt_X3_valueAt
theorem dL_valueAt_0 : decode cL_valueAt 0 = .ok (.aload 4, 2) := by decide +kernel
theorem dL_valueAt_2 : decode cL_valueAt 2 = .ok (.iconst 0, 1) := by decide +kernel
theorem dL_valueAt_3 : decode cL_valueAt 3 = .ok (.aload_n 0, 1) := by decide +kernel
theorem dL_valueAt_4 : decode cL_valueAt 4 = .ok (.iload_n 1, 1) := by decide +kernel
theorem dL_valueAt_5 : decode cL_valueAt 5 = .ok (.iload_n 2, 1) := by decide +kernel
theorem dL_valueAt_6 : decode cL_valueAt 6 = .ok (.iload_n 3, 1) := by decide +kernel
theorem dL_valueAt_7 : decode cL_valueAt 7 = .ok (.invokevirtual 49, 3) := by decide +kernel
theorem dL_valueAt_10 : decode cL_valueAt 10 = .ok (.i2l, 1) := by decide +kernel
theorem dL_valueAt_11 : decode cL_valueAt 11 = .ok (.lastore, 1) := by decide +kernel
theorem dL_valueAt_12 : decode cL_valueAt 12 = .ok (.goto 15, 3) := by decide +kernel
theorem dL_valueAt_15 : decode cL_valueAt 15 = .ok (.astore 5, 2) := by decide +kernel
theorem dL_valueAt_17 : decode cL_valueAt 17 = .ok (.iconst 1, 1) := by decide +kernel
theorem dL_valueAt_18 : decode cL_valueAt 18 = .ok (.ireturn, 1) := by decide +kernel
theorem dL_valueAt_19 : decode cL_valueAt 19 = .ok (.astore 5, 2) := by decide +kernel
theorem dL_valueAt_21 : decode cL_valueAt 21 = .ok (.iconst 2, 1) := by decide +kernel
theorem dL_valueAt_22 : decode cL_valueAt 22 = .ok (.ireturn, 1) := by decide +kernel
theorem dL_valueAt_23 : decode cL_valueAt 23 = .ok (.astore 5, 2) := by decide +kernel
theorem dL_valueAt_25 : decode cL_valueAt 25 = .ok (.iconst 3, 1) := by decide +kernel
theorem dL_valueAt_26 : decode cL_valueAt 26 = .ok (.ireturn, 1) := by decide +kernel
theorem dL_valueAt_27 : decode cL_valueAt 27 = .ok (.iconst 0, 1) := by decide +kernel
theorem dL_valueAt_28 : decode cL_valueAt 28 = .ok (.ireturn, 1) := by decide +kernel
set_option maxRecDepth 20000 in
theorem ggL_take_X3_take : GoodIn wsL_take wsX3_take := goodIn_ca (goodIn_ca (goodIn_r _ [7, 8, 9, 10, 11, 12, 13, 14, 6, 15, 16, 17, 18, 19, 20, 21, 22, 23, 24, 25, 26, 27, 28, 29, 30, 31, 32, 33, 34, 35, 36, 37, 38, 39, 40, 41, 42, 43, 44, 45, 46, 47] (by decide +kernel) (by decide +kernel)) (goodIn_sub (fun _ h => List.mem_cons_of_mem _ (List.mem_append_left _ (List.mem_append_right _ h))) (by decide +kernel))) (goodIn_sub (fun _ h => List.mem_cons_of_mem _ (List.mem_append_right _ h)) (by decide +kernel))
set_option maxRecDepth 20000 in
theorem gL_take_X3_take : GoodIn wsL_take (wsV RL 52 RX3 yX3_take wsX3_take) := goodIn_app (goodIn_of _ (by decide +kernel)) ggL_take_X3_take
theorem dL_take_0 : decode cL_take 0 = .ok (.aload_n 3, 1) := by decide +kernel
theorem dL_take_1 : decode cL_take 1 = .ok (.iconst 0, 1) := by decide +kernel
theorem dL_take_2 : decode cL_take 2 = .ok (.aload_n 0, 1) := by decide +kernel
theorem dL_take_3 : decode cL_take 3 = .ok (.iload_n 1, 1) := by decide +kernel
theorem dL_take_4 : decode cL_take 4 = .ok (.iload_n 2, 1) := by decide +kernel
theorem dL_take_5 : decode cL_take 5 = .ok (.invokevirtual 52, 3) := by decide +kernel
theorem dL_take_8 : decode cL_take 8 = .ok (.i2l, 1) := by decide +kernel
theorem dL_take_9 : decode cL_take 9 = .ok (.lastore, 1) := by decide +kernel
theorem dL_take_10 : decode cL_take 10 = .ok (.goto 11, 3) := by decide +kernel
theorem dL_take_13 : decode cL_take 13 = .ok (.astore 4, 2) := by decide +kernel
theorem dL_take_15 : decode cL_take 15 = .ok (.iconst 1, 1) := by decide +kernel
theorem dL_take_16 : decode cL_take 16 = .ok (.ireturn, 1) := by decide +kernel
theorem dL_take_17 : decode cL_take 17 = .ok (.astore 4, 2) := by decide +kernel
theorem dL_take_19 : decode cL_take 19 = .ok (.iconst 2, 1) := by decide +kernel
theorem dL_take_20 : decode cL_take 20 = .ok (.ireturn, 1) := by decide +kernel
theorem dL_take_21 : decode cL_take 21 = .ok (.iconst 0, 1) := by decide +kernel
theorem dL_take_22 : decode cL_take 22 = .ok (.ireturn, 1) := by decide +kernel
set_option maxRecDepth 20000 in
theorem ggL_giveBack_X3_giveBack : GoodIn wsL_giveBack wsX3_giveBack := goodIn_ca (goodIn_ca (goodIn_r _ [7, 8, 9, 10, 6, 11, 12, 13, 14, 15, 16, 17, 18, 19, 20, 21, 22, 23, 24, 25, 26, 27, 28, 29, 30, 31, 32, 33, 34, 35, 36, 37, 38, 39, 40, 41, 42, 43, 44, 45, 46, 47, 48, 49, 50, 51] (by decide +kernel) (by decide +kernel)) (goodIn_sub (fun _ h => List.mem_cons_of_mem _ (List.mem_append_left _ (List.mem_append_right _ h))) (by decide +kernel))) (goodIn_sub (fun _ h => List.mem_cons_of_mem _ (List.mem_append_right _ h)) (by decide +kernel))
set_option maxRecDepth 20000 in
theorem gL_giveBack_X3_giveBack : GoodIn wsL_giveBack (wsV RL 55 RX3 yX3_giveBack wsX3_giveBack) := goodIn_app (goodIn_of _ (by decide +kernel)) ggL_giveBack_X3_giveBack
theorem dL_giveBack_0 : decode cL_giveBack 0 = .ok (.aload_n 0, 1) := by decide +kernel
theorem dL_giveBack_1 : decode cL_giveBack 1 = .ok (.iload_n 1, 1) := by decide +kernel
theorem dL_giveBack_2 : decode cL_giveBack 2 = .ok (.invokevirtual 55, 3) := by decide +kernel
theorem dL_giveBack_5 : decode cL_giveBack 5 = .ok (.goto 9, 3) := by decide +kernel
theorem dL_giveBack_8 : decode cL_giveBack 8 = .ok (.astore_n 2, 1) := by decide +kernel
theorem dL_giveBack_9 : decode cL_giveBack 9 = .ok (.iconst 1, 1) := by decide +kernel
theorem dL_giveBack_10 : decode cL_giveBack 10 = .ok (.ireturn, 1) := by decide +kernel
theorem dL_giveBack_11 : decode cL_giveBack 11 = .ok (.astore_n 2, 1) := by decide +kernel
theorem dL_giveBack_12 : decode cL_giveBack 12 = .ok (.iconst 2, 1) := by decide +kernel
theorem dL_giveBack_13 : decode cL_giveBack 13 = .ok (.ireturn, 1) := by decide +kernel
theorem dL_giveBack_14 : decode cL_giveBack 14 = .ok (.iconst 0, 1) := by decide +kernel
theorem dL_giveBack_15 : decode cL_giveBack 15 = .ok (.ireturn, 1) := by decide +kernel
set_option maxRecDepth 20000 in
theorem ggL_restart_X3_restart : GoodIn wsL_restart wsX3_restart := goodIn_ca (goodIn_ca (goodIn_r _ [7, 8, 9, 10, 11, 12, 6, 13, 14, 15, 16, 17, 18, 19, 20, 21, 22, 23, 24, 25, 26, 27, 28, 29, 30, 31, 32, 33, 34, 35, 36, 37, 38, 39, 40, 41, 42, 43] (by decide +kernel) (by decide +kernel)) (goodIn_sub (fun _ h => List.mem_cons_of_mem _ (List.mem_append_left _ (List.mem_append_right _ h))) (by decide +kernel))) (goodIn_sub (fun _ h => List.mem_cons_of_mem _ (List.mem_append_right _ h)) (by decide +kernel))
set_option maxRecDepth 20000 in
theorem gL_restart_X3_restart : GoodIn wsL_restart (wsV RL 59 RX3 yX3_restart wsX3_restart) := goodIn_app (goodIn_of _ (by decide +kernel)) ggL_restart_X3_restart
theorem dL_restart_0 : decode cL_restart 0 = .ok (.aload_n 2, 1) := by decide +kernel
theorem dL_restart_1 : decode cL_restart 1 = .ok (.iconst 0, 1) := by decide +kernel
theorem dL_restart_2 : decode cL_restart 2 = .ok (.aload_n 0, 1) := by decide +kernel
theorem dL_restart_3 : decode cL_restart 3 = .ok (.iload_n 1, 1) := by decide +kernel
theorem dL_restart_4 : decode cL_restart 4 = .ok (.invokevirtual 59, 3) := by decide +kernel
theorem dL_restart_7 : decode cL_restart 7 = .ok (.ifCond .eq 7, 3) := by decide +kernel
theorem dL_restart_10 : decode cL_restart 10 = .ok (.lconst 1, 1) := by decide +kernel
theorem dL_restart_11 : decode cL_restart 11 = .ok (.goto 4, 3) := by decide +kernel
theorem dL_restart_14 : decode cL_restart 14 = .ok (.lconst 0, 1) := by decide +kernel
theorem dL_restart_15 : decode cL_restart 15 = .ok (.lastore, 1) := by decide +kernel
theorem dL_restart_16 : decode cL_restart 16 = .ok (.goto 9, 3) := by decide +kernel
theorem dL_restart_19 : decode cL_restart 19 = .ok (.astore_n 3, 1) := by decide +kernel
theorem dL_restart_20 : decode cL_restart 20 = .ok (.iconst 1, 1) := by decide +kernel
theorem dL_restart_21 : decode cL_restart 21 = .ok (.ireturn, 1) := by decide +kernel
theorem dL_restart_22 : decode cL_restart 22 = .ok (.astore_n 3, 1) := by decide +kernel
theorem dL_restart_23 : decode cL_restart 23 = .ok (.iconst 2, 1) := by decide +kernel
theorem dL_restart_24 : decode cL_restart 24 = .ok (.ireturn, 1) := by decide +kernel
theorem dL_restart_25 : decode cL_restart 25 = .ok (.iconst 0, 1) := by decide +kernel
theorem dL_restart_26 : decode cL_restart 26 = .ok (.ireturn, 1) := by decide +kernel
set_option maxRecDepth 20000 in
theorem ggL_pass_X3_pass : GoodIn wsL_pass wsX3_pass := goodIn_ca (goodIn_r _ [6, 7, 8, 9, 10, 11, 12, 13, 14, 15, 16, 17, 18, 19, 20, 21, 22, 23, 24, 25, 26] (by decide +kernel) (by decide +kernel)) (goodIn_sub (fun _ h => List.mem_cons_of_mem _ (List.mem_append_right _ h)) (by decide +kernel))
set_option maxRecDepth 20000 in
theorem gL_pass_X3_pass : GoodIn wsL_pass (wsV RL 63 RX3 yX3_pass wsX3_pass) := goodIn_app (goodIn_of _ (by decide +kernel)) ggL_pass_X3_pass
theorem dL_pass_0 : decode cL_pass 0 = .ok (.aload_n 2, 1) := by decide +kernel
theorem dL_pass_1 : decode cL_pass 1 = .ok (.iconst 0, 1) := by decide +kernel
theorem dL_pass_2 : decode cL_pass 2 = .ok (.aload_n 0, 1) := by decide +kernel
theorem dL_pass_3 : decode cL_pass 3 = .ok (.iload_n 1, 1) := by decide +kernel
theorem dL_pass_4 : decode cL_pass 4 = .ok (.invokevirtual 63, 3) := by decide +kernel
theorem dL_pass_7 : decode cL_pass 7 = .ok (.i2l, 1) := by decide +kernel
theorem dL_pass_8 : decode cL_pass 8 = .ok (.lastore, 1) := by decide +kernel
theorem dL_pass_9 : decode cL_pass 9 = .ok (.goto 6, 3) := by decide +kernel
theorem dL_pass_12 : decode cL_pass 12 = .ok (.astore_n 3, 1) := by decide +kernel
theorem dL_pass_13 : decode cL_pass 13 = .ok (.iconst 1, 1) := by decide +kernel
theorem dL_pass_14 : decode cL_pass 14 = .ok (.ireturn, 1) := by decide +kernel
theorem dL_pass_15 : decode cL_pass 15 = .ok (.iconst 0, 1) := by decide +kernel
theorem dL_pass_16 : decode cL_pass 16 = .ok (.ireturn, 1) := by decide +kernel
set_option maxRecDepth 20000 in
theorem ggL_begin_X3_begin : GoodIn wsL_begin wsX3_begin := goodIn_ca (goodIn_ca (goodIn_r _ [7, 8, 9, 10, 11, 12, 13, 14, 15, 6, 16, 17, 18, 19, 20, 21, 22, 23, 24, 25, 26, 27, 28, 29, 30, 31, 32, 33, 34, 35, 36, 37, 38, 39, 40, 41, 42, 43, 44, 45, 46, 47, 48, 49, 50, 51, 52, 53, 54, 55, 56, 57, 58, 59, 60, 61, 62, 63, 64, 65, 66, 67, 68, 69, 70, 71, 72, 73, 74, 75, 76, 77, 78, 79, 80, 81, 82, 83, 84, 85, 86, 87, 88, 89, 90, 91] (by decide +kernel) (by decide +kernel)) (goodIn_sub (fun _ h => List.mem_cons_of_mem _ (List.mem_append_left _ (List.mem_append_right _ h))) (by decide +kernel))) (goodIn_sub (fun _ h => List.mem_cons_of_mem _ (List.mem_append_right _ h)) (by decide +kernel))
set_option maxRecDepth 20000 in
theorem gL_begin_X3_begin : GoodIn wsL_begin (wsV RL 66 RX3 yX3_begin wsX3_begin) := goodIn_app (goodIn_of _ (by decide +kernel)) ggL_begin_X3_begin
theorem dL_begin_0 : decode cL_begin 0 = .ok (.aload_n 2, 1) := by decide +kernel
theorem dL_begin_1 : decode cL_begin 1 = .ok (.iconst 0, 1) := by decide +kernel
theorem dL_begin_2 : decode cL_begin 2 = .ok (.aload_n 0, 1) := by decide +kernel
theorem dL_begin_3 : decode cL_begin 3 = .ok (.iload_n 1, 1) := by decide +kernel
theorem dL_begin_4 : decode cL_begin 4 = .ok (.invokevirtual 66, 3) := by decide +kernel
theorem dL_begin_7 : decode cL_begin 7 = .ok (.i2l, 1) := by decide +kernel
theorem dL_begin_8 : decode cL_begin 8 = .ok (.lastore, 1) := by decide +kernel
theorem dL_begin_9 : decode cL_begin 9 = .ok (.goto 9, 3) := by decide +kernel
theorem dL_begin_12 : decode cL_begin 12 = .ok (.astore_n 3, 1) := by decide +kernel
theorem dL_begin_13 : decode cL_begin 13 = .ok (.iconst 1, 1) := by decide +kernel
theorem dL_begin_14 : decode cL_begin 14 = .ok (.ireturn, 1) := by decide +kernel
theorem dL_begin_15 : decode cL_begin 15 = .ok (.astore_n 3, 1) := by decide +kernel
theorem dL_begin_16 : decode cL_begin 16 = .ok (.iconst 2, 1) := by decide +kernel
theorem dL_begin_17 : decode cL_begin 17 = .ok (.ireturn, 1) := by decide +kernel
theorem dL_begin_18 : decode cL_begin 18 = .ok (.iconst 0, 1) := by decide +kernel
theorem dL_begin_19 : decode cL_begin 19 = .ok (.ireturn, 1) := by decide +kernel
set_option maxRecDepth 20000 in
theorem ggL_undo_X3_undo : GoodIn wsL_undo wsX3_undo := goodIn_ca (goodIn_ca (goodIn_r _ [7, 8, 9, 10, 11, 12, 13, 14, 6, 15, 16, 17, 18, 19, 20, 21, 22, 23, 24, 25, 26, 27, 28, 29, 30, 31, 32, 33, 34, 35, 36, 37, 38, 39, 40, 41, 42, 43, 44, 45, 46, 47, 48, 49, 50, 51, 52, 53, 54, 55, 56, 57, 58, 59, 60, 61, 62, 63, 64, 65, 66, 67, 68, 69, 70, 71, 72, 73, 74, 75, 76, 77, 78] (by decide +kernel) (by decide +kernel)) (goodIn_sub (fun _ h => List.mem_cons_of_mem _ (List.mem_append_left _ (List.mem_append_right _ h))) (by decide +kernel))) (goodIn_sub (fun _ h => List.mem_cons_of_mem _ (List.mem_append_right _ h)) (by decide +kernel))
set_option maxRecDepth 20000 in
theorem gL_undo_X3_undo : GoodIn wsL_undo (wsV RL 69 RX3 yX3_undo wsX3_undo) := goodIn_app (goodIn_of _ (by decide +kernel)) ggL_undo_X3_undo
theorem dL_undo_0 : decode cL_undo 0 = .ok (.aload_n 2, 1) := by decide +kernel
theorem dL_undo_1 : decode cL_undo 1 = .ok (.iconst 0, 1) := by decide +kernel
theorem dL_undo_2 : decode cL_undo 2 = .ok (.aload_n 0, 1) := by decide +kernel
theorem dL_undo_3 : decode cL_undo 3 = .ok (.iload_n 1, 1) := by decide +kernel
theorem dL_undo_4 : decode cL_undo 4 = .ok (.invokevirtual 69, 3) := by decide +kernel
theorem dL_undo_7 : decode cL_undo 7 = .ok (.i2l, 1) := by decide +kernel
theorem dL_undo_8 : decode cL_undo 8 = .ok (.lastore, 1) := by decide +kernel
theorem dL_undo_9 : decode cL_undo 9 = .ok (.goto 9, 3) := by decide +kernel
theorem dL_undo_12 : decode cL_undo 12 = .ok (.astore_n 3, 1) := by decide +kernel
theorem dL_undo_13 : decode cL_undo 13 = .ok (.iconst 1, 1) := by decide +kernel
theorem dL_undo_14 : decode cL_undo 14 = .ok (.ireturn, 1) := by decide +kernel
theorem dL_undo_15 : decode cL_undo 15 = .ok (.astore_n 3, 1) := by decide +kernel
theorem dL_undo_16 : decode cL_undo 16 = .ok (.iconst 2, 1) := by decide +kernel
theorem dL_undo_17 : decode cL_undo 17 = .ok (.ireturn, 1) := by decide +kernel
theorem dL_undo_18 : decode cL_undo 18 = .ok (.iconst 0, 1) := by decide +kernel
theorem dL_undo_19 : decode cL_undo 19 = .ok (.ireturn, 1) := by decide +kernel
set_option maxRecDepth 20000 in
theorem ggL_step_X3_step : GoodIn wsL_step wsX3_step := goodIn_ca (goodIn_ca (goodIn_r _ [7, 8, 9, 10, 11, 12, 13, 14, 15, 6, 16, 17, 18, 19, 20, 21, 22, 23, 24, 25, 26, 27, 28, 29, 30, 31, 32, 33, 34, 35, 36, 37, 38, 39, 40, 41, 42, 43, 44, 45, 46, 47, 48, 49, 50, 51, 52, 53, 54, 55, 56, 57, 58, 59, 60, 61, 62, 63, 64, 65, 66, 67, 68, 69, 70, 71, 72, 73, 74, 75, 76, 77, 78, 79, 80, 81, 82, 83, 84, 85, 86, 87, 88, 89, 90, 91, 92, 93, 94, 95, 96, 97, 98, 99, 100, 101, 102, 103, 104, 105, 106, 107, 108, 109, 110, 111, 112, 113, 114, 115, 116, 117, 118, 119, 120, 121, 122, 123, 124, 125, 126, 127, 128, 129, 130, 131, 132, 133, 134, 135, 136, 137, 138, 139, 140, 141, 142, 143, 144, 145, 146, 147, 148, 149, 150, 151, 152, 153, 154, 155, 156, 157, 158, 159, 160, 161, 162, 163, 164, 165] (by decide +kernel) (by decide +kernel)) (goodIn_sub (fun _ h => List.mem_cons_of_mem _ (List.mem_append_left _ (List.mem_append_right _ h))) (by decide +kernel))) (goodIn_sub (fun _ h => List.mem_cons_of_mem _ (List.mem_append_right _ h)) (by decide +kernel))
set_option maxRecDepth 20000 in
theorem gL_step_X3_step : GoodIn wsL_step (wsV RL 72 RX3 yX3_step wsX3_step) := goodIn_app (goodIn_of _ (by decide +kernel)) ggL_step_X3_step
theorem dL_step_0 : decode cL_step 0 = .ok (.aload 4, 2) := by decide +kernel
theorem dL_step_2 : decode cL_step 2 = .ok (.iconst 0, 1) := by decide +kernel
theorem dL_step_3 : decode cL_step 3 = .ok (.aload_n 0, 1) := by decide +kernel
theorem dL_step_4 : decode cL_step 4 = .ok (.iload_n 1, 1) := by decide +kernel
theorem dL_step_5 : decode cL_step 5 = .ok (.iload_n 2, 1) := by decide +kernel
theorem dL_step_6 : decode cL_step 6 = .ok (.iload_n 3, 1) := by decide +kernel
theorem dL_step_7 : decode cL_step 7 = .ok (.invokevirtual 72, 3) := by decide +kernel
theorem dL_step_10 : decode cL_step 10 = .ok (.i2l, 1) := by decide +kernel
theorem dL_step_11 : decode cL_step 11 = .ok (.lastore, 1) := by decide +kernel
theorem dL_step_12 : decode cL_step 12 = .ok (.goto 11, 3) := by decide +kernel
theorem dL_step_15 : decode cL_step 15 = .ok (.astore 5, 2) := by decide +kernel
theorem dL_step_17 : decode cL_step 17 = .ok (.iconst 1, 1) := by decide +kernel
theorem dL_step_18 : decode cL_step 18 = .ok (.ireturn, 1) := by decide +kernel
theorem dL_step_19 : decode cL_step 19 = .ok (.astore 5, 2) := by decide +kernel
theorem dL_step_21 : decode cL_step 21 = .ok (.iconst 2, 1) := by decide +kernel
theorem dL_step_22 : decode cL_step 22 = .ok (.ireturn, 1) := by decide +kernel
theorem dL_step_23 : decode cL_step 23 = .ok (.iconst 0, 1) := by decide +kernel
theorem dL_step_24 : decode cL_step 24 = .ok (.ireturn, 1) := by decide +kernel
set_option maxRecDepth 20000 in
theorem ggL_cursor_X3_cursor : GoodIn wsL_cursor wsX3_cursor := goodIn_ca (goodIn_r _ [6, 7, 8, 9, 10, 5, 11, 12, 13, 14, 15, 16, 17, 18, 19, 20, 21, 22, 23, 24, 25] (by decide +kernel) (by decide +kernel)) (goodIn_sub (fun _ h => List.mem_cons_of_mem _ (List.mem_append_right _ h)) (by decide +kernel))
set_option maxRecDepth 20000 in
theorem gL_cursor_X3_cursor : GoodIn wsL_cursor (wsV RL 75 RX3 yX3_cursor wsX3_cursor) := goodIn_app (goodIn_of _ (by decide +kernel)) ggL_cursor_X3_cursor
theorem dL_cursor_0 : decode cL_cursor 0 = .ok (.aload_n 1, 1) := by decide +kernel
theorem dL_cursor_1 : decode cL_cursor 1 = .ok (.iconst 0, 1) := by decide +kernel
theorem dL_cursor_2 : decode cL_cursor 2 = .ok (.aload_n 0, 1) := by decide +kernel
theorem dL_cursor_3 : decode cL_cursor 3 = .ok (.invokevirtual 75, 3) := by decide +kernel
theorem dL_cursor_6 : decode cL_cursor 6 = .ok (.i2l, 1) := by decide +kernel
theorem dL_cursor_7 : decode cL_cursor 7 = .ok (.lastore, 1) := by decide +kernel
theorem dL_cursor_8 : decode cL_cursor 8 = .ok (.goto 6, 3) := by decide +kernel
theorem dL_cursor_11 : decode cL_cursor 11 = .ok (.astore_n 2, 1) := by decide +kernel
theorem dL_cursor_12 : decode cL_cursor 12 = .ok (.iconst 1, 1) := by decide +kernel
theorem dL_cursor_13 : decode cL_cursor 13 = .ok (.ireturn, 1) := by decide +kernel
theorem dL_cursor_14 : decode cL_cursor 14 = .ok (.iconst 0, 1) := by decide +kernel
theorem dL_cursor_15 : decode cL_cursor 15 = .ok (.ireturn, 1) := by decide +kernel
set_option maxRecDepth 20000 in
theorem ggL_share_X3_share : GoodIn wsL_share wsX3_share := goodIn_ca (goodIn_r _ [6, 7, 8, 9, 10, 11, 12, 5, 13, 14, 15, 16, 17, 18, 19, 20, 21, 22, 23, 24, 25, 26, 27, 28, 29, 30, 31, 32, 33, 34, 35, 36, 37, 38, 39, 40, 41, 42, 43] (by decide +kernel) (by decide +kernel)) (goodIn_sub (fun _ h => List.mem_cons_of_mem _ (List.mem_append_right _ h)) (by decide +kernel))
set_option maxRecDepth 20000 in
theorem gL_share_X3_share : GoodIn wsL_share (wsV RL 79 RX3 yX3_share wsX3_share) := goodIn_app (goodIn_of _ (by decide +kernel)) ggL_share_X3_share
theorem dL_share_0 : decode cL_share 0 = .ok (.aload_n 1, 1) := by decide +kernel
theorem dL_share_1 : decode cL_share 1 = .ok (.iconst 0, 1) := by decide +kernel
theorem dL_share_2 : decode cL_share 2 = .ok (.aload_n 0, 1) := by decide +kernel
theorem dL_share_3 : decode cL_share 3 = .ok (.invokevirtual 79, 3) := by decide +kernel
theorem dL_share_6 : decode cL_share 6 = .ok (.f2d, 1) := by decide +kernel
theorem dL_share_7 : decode cL_share 7 = .ok (.dastore, 1) := by decide +kernel
theorem dL_share_8 : decode cL_share 8 = .ok (.goto 6, 3) := by decide +kernel
theorem dL_share_11 : decode cL_share 11 = .ok (.astore_n 2, 1) := by decide +kernel
theorem dL_share_12 : decode cL_share 12 = .ok (.iconst 1, 1) := by decide +kernel
theorem dL_share_13 : decode cL_share 13 = .ok (.ireturn, 1) := by decide +kernel
theorem dL_share_14 : decode cL_share 14 = .ok (.iconst 0, 1) := by decide +kernel
theorem dL_share_15 : decode cL_share 15 = .ok (.ireturn, 1) := by decide +kernel
set_option maxRecDepth 20000 in
theorem ggL_law_X3_init : GoodIn wsL_law wsX3_init := goodIn_r _ [10, 11, 12, 13, 14, 15, 16, 17, 18, 19, 20, 21, 22, 23, 24, 25, 26, 27, 28, 29, 30, 31, 32, 33, 34, 35, 36, 37, 38, 39, 40, 41, 42, 43, 44, 45, 46, 47, 647, 648, 649, 650, 651, 624, 625, 626, 627, 628, 629, 630, 652, 653, 654, 655, 656, 657] (by decide +kernel) (by decide +kernel)
set_option maxRecDepth 20000 in
theorem gL_law_X3_init : GoodIn wsL_law (wsX3_init) := ggL_law_X3_init
set_option maxRecDepth 20000 in
theorem ggL_law_X4_init : GoodIn wsL_law wsX4_init := goodIn_r _ [50, 51, 12, 13, 26, 52, 53, 54, 55, 56, 57, 6, 58, 59, 45, 60, 631, 632, 633, 634, 635, 636, 637, 638, 639, 640, 641, 642, 643, 644, 645, 646] (by decide +kernel) (by decide +kernel)
set_option maxRecDepth 20000 in
theorem gL_law_X4_init : GoodIn wsL_law (wsX4_init) := ggL_law_X4_init
set_option maxRecDepth 20000 in
theorem ggL_law_L_addChange : GoodIn wsL_law wsL_addChange := goodIn_ca (goodIn_ca (goodIn_r _ [64, 65, 66, 67, 68, 69, 2, 70, 71, 72, 17, 73, 74, 75, 76, 77, 78, 79, 80, 81, 82, 83, 84, 85, 86, 87, 88, 89, 16, 90, 91, 92, 93, 94, 95, 96, 97, 98, 99, 32, 33, 34, 624, 625, 626, 627, 628, 629, 630, 647, 648, 649, 650, 651] (by decide +kernel) (by decide +kernel)) (goodIn_sub (fun _ h => List.mem_append_left _ (List.mem_append_left _ (List.mem_append_right _ h))) (by decide +kernel))) (goodIn_sub (fun _ h => List.mem_append_left _ (List.mem_append_right _ h)) (by decide +kernel))
set_option maxRecDepth 20000 in
theorem gL_law_L_addChange : GoodIn wsL_law (va_wsS RL 87 yL_addChange wsL_addChange) := goodIn_app (goodIn_of _ (by decide +kernel)) ggL_law_L_addChange
set_option maxRecDepth 20000 in
theorem ggL_law_X4_addChange : GoodIn wsL_law wsX4_addChange := goodIn_r _ [103, 104, 105, 106, 5, 107, 108, 109, 110, 111, 112, 113, 114, 115, 116, 117, 118, 119, 52, 53, 54, 631, 632, 633, 634, 635, 636, 637, 638, 639, 640, 641, 642, 643, 644, 645, 646] (by decide +kernel) (by decide +kernel)
set_option maxRecDepth 20000 in
theorem gL_law_X4_addChange : GoodIn wsL_law (wsV RL 92 RX4 yX4_addChange wsX4_addChange) := goodIn_app (goodIn_of _ (by decide +kernel)) ggL_law_X4_addChange
set_option maxRecDepth 20000 in
theorem ggL_law_X4_thrown : GoodIn wsL_law wsX4_thrown := goodIn_r _ [123, 115, 631, 632, 633, 634, 635, 636, 637, 638, 639, 640, 641, 642, 643, 644, 645, 646] (by decide +kernel) (by decide +kernel)
set_option maxRecDepth 20000 in
theorem gL_law_X4_thrown : GoodIn wsL_law (wsV RL 93 RX4 yX4_thrown wsX4_thrown) := goodIn_app (goodIn_of _ (by decide +kernel)) ggL_law_X4_thrown
set_option maxRecDepth 20000 in
theorem ggL_law_L_edit : GoodIn wsL_law wsL_edit := goodIn_ca (goodIn_ca (goodIn_ca (goodIn_r _ [126, 65, 127, 66, 128, 129, 130, 2, 131, 71, 72, 17, 73, 74, 75, 76, 77, 78, 79, 80, 81, 82, 83, 84, 85, 86, 132, 133, 134, 135, 136, 137, 138, 139, 140, 16, 141, 91, 142, 143, 144, 145, 28, 146, 147, 148, 149, 150, 151, 97, 98, 99, 32, 33, 34, 152, 153, 154, 155, 156, 624, 625, 626, 627, 628, 629, 630, 647, 648, 649, 650, 651] (by decide +kernel) (by decide +kernel)) (goodIn_sub (fun _ h => List.mem_append_left _ (List.mem_append_left _ (List.mem_append_right _ h))) (by decide +kernel))) (goodIn_sub (fun _ h => List.mem_append_left _ (List.mem_append_right _ h)) (by decide +kernel))) (goodIn_sub (fun _ h => List.mem_append_right _ h) (by decide +kernel))
set_option maxRecDepth 20000 in
theorem gL_law_L_edit : GoodIn wsL_law (va_wsS RL 96 yL_edit wsL_edit) := goodIn_app (goodIn_of _ (by decide +kernel)) ggL_law_L_edit
set_option maxRecDepth 20000 in
theorem ggL_law_X4_edit : GoodIn wsL_law wsX4_edit := goodIn_r _ [160, 104, 105, 106, 5, 107, 108, 109, 110, 161, 162, 163, 164, 165, 166, 111, 112, 113, 114, 115, 116, 117, 118, 119, 52, 53, 54, 167, 168, 169, 170, 171, 631, 632, 633, 634, 635, 636, 637, 638, 639, 640, 641, 642, 643, 644, 645, 646] (by decide +kernel) (by decide +kernel)
set_option maxRecDepth 20000 in
theorem gL_law_X4_edit : GoodIn wsL_law (wsV RL 99 RX4 yX4_edit wsX4_edit) := goodIn_app (goodIn_of _ (by decide +kernel)) ggL_law_X4_edit
set_option maxRecDepth 20000 in
theorem ggL_law_X3_changes : GoodIn wsL_law wsX3_changes := goodIn_r _ [175, 17, 176, 177, 178, 16, 179, 91, 624, 625, 626, 627, 628, 629, 630, 647, 648, 649, 650, 651] (by decide +kernel) (by decide +kernel)
set_option maxRecDepth 20000 in
theorem gL_law_X3_changes : GoodIn wsL_law (wsV RL 100 RX3 yX3_changes wsX3_changes) := goodIn_app (goodIn_of _ (by decide +kernel)) ggL_law_X3_changes
set_option maxRecDepth 20000 in
theorem ggL_law_X4_changes : GoodIn wsL_law wsX4_changes := goodIn_r _ [183, 104, 184, 185, 186, 5, 187, 115, 631, 632, 633, 634, 635, 636, 637, 638, 639, 640, 641, 642, 643, 644, 645, 646] (by decide +kernel) (by decide +kernel)
set_option maxRecDepth 20000 in
theorem gL_law_X4_changes : GoodIn wsL_law (wsV RL 103 RX4 yX4_changes wsX4_changes) := goodIn_app (goodIn_of _ (by decide +kernel)) ggL_law_X4_changes
set_option maxRecDepth 20000 in
theorem ggL_law_L_checksum : GoodIn wsL_law wsL_checksum := goodIn_ca (goodIn_r _ [190, 127, 191, 192, 193, 2, 194, 17, 132, 133, 134, 135, 136, 137, 138, 139, 140, 16, 141, 91, 152, 153, 154, 155, 32, 33, 34, 156, 624, 625, 626, 627, 628, 629, 630, 647, 648, 649, 650, 651] (by decide +kernel) (by decide +kernel)) (goodIn_sub (fun _ h => List.mem_append_right _ h) (by decide +kernel))
set_option maxRecDepth 20000 in
theorem gL_law_L_checksum : GoodIn wsL_law (va_wsS RL 104 yL_checksum wsL_checksum) := goodIn_app (goodIn_of _ (by decide +kernel)) ggL_law_L_checksum
set_option maxRecDepth 20000 in
theorem ggL_law_X4_checksum : GoodIn wsL_law wsX4_checksum := goodIn_r _ [198, 104, 108, 109, 5, 110, 111, 112, 113, 114, 115, 167, 168, 169, 170, 52, 53, 54, 171, 631, 632, 633, 634, 635, 636, 637, 638, 639, 640, 641, 642, 643, 644, 645, 646] (by decide +kernel) (by decide +kernel)
set_option maxRecDepth 20000 in
theorem gL_law_X4_checksum : GoodIn wsL_law (wsV RL 107 RX4 yX4_checksum wsX4_checksum) := goodIn_app (goodIn_of _ (by decide +kernel)) ggL_law_X4_checksum
set_option maxRecDepth 20000 in
theorem ggL_law_L_state : GoodIn wsL_law wsL_state := goodIn_ca (goodIn_r _ [201, 127, 202, 203, 204, 2, 205, 150, 28, 132, 133, 134, 135, 136, 137, 17, 138, 139, 140, 16, 141, 91, 146, 147, 148, 149, 624, 625, 626, 627, 628, 629, 630, 647, 648, 649, 650, 651] (by decide +kernel) (by decide +kernel)) (goodIn_sub (fun _ h => List.mem_append_right _ h) (by decide +kernel))
set_option maxRecDepth 20000 in
theorem gL_law_L_state : GoodIn wsL_law (va_wsS RL 108 yL_state wsL_state) := goodIn_app (goodIn_of _ (by decide +kernel)) ggL_law_L_state
set_option maxRecDepth 20000 in
theorem ggL_law_X4_state : GoodIn wsL_law wsX4_state := goodIn_r _ [209, 104, 108, 109, 5, 110, 111, 112, 113, 114, 115, 161, 162, 163, 164, 165, 166, 631, 632, 633, 634, 635, 636, 637, 638, 639, 640, 641, 642, 643, 644, 645, 646] (by decide +kernel) (by decide +kernel)
set_option maxRecDepth 20000 in
theorem gL_law_X4_state : GoodIn wsL_law (wsV RL 110 RX4 yX4_state wsX4_state) := goodIn_app (goodIn_of _ (by decide +kernel)) ggL_law_X4_state
set_option maxRecDepth 20000 in
theorem ggL_law_X3_level : GoodIn wsL_law wsX3_level := goodIn_r _ [213, 150, 624, 625, 626, 627, 628, 629, 630] (by decide +kernel) (by decide +kernel)
set_option maxRecDepth 20000 in
theorem gL_law_X3_level : GoodIn wsL_law (wsV RL 111 RX3 yX3_level wsX3_level) := goodIn_app (goodIn_of _ (by decide +kernel)) ggL_law_X3_level
set_option maxRecDepth 20000 in
theorem ggL_law_X4_level : GoodIn wsL_law wsX4_level := goodIn_r _ [217, 165, 184, 185, 186, 5, 187, 115, 631, 632, 633, 634, 635, 636, 637, 638, 639, 640, 641, 642, 643, 644, 645, 646] (by decide +kernel) (by decide +kernel)
set_option maxRecDepth 20000 in
theorem gL_law_X4_level : GoodIn wsL_law (wsV RL 114 RX4 yX4_level wsX4_level) := goodIn_app (goodIn_of _ (by decide +kernel)) ggL_law_X4_level
set_option maxRecDepth 20000 in
theorem ggL_law_X3_drifted : GoodIn wsL_law wsX3_drifted := goodIn_r _ [221, 17, 150, 222, 223, 224, 16, 225, 226, 227, 228, 229, 35, 230, 153, 154, 155, 32, 33, 34, 156, 624, 625, 626, 627, 628, 629, 630, 647, 648, 649, 650, 651] (by decide +kernel) (by decide +kernel)
set_option maxRecDepth 20000 in
theorem gL_law_X3_drifted : GoodIn wsL_law (wsV RL 115 RX3 yX3_drifted wsX3_drifted) := goodIn_app (goodIn_of _ (by decide +kernel)) ggL_law_X3_drifted
set_option maxRecDepth 20000 in
theorem ggL_law_X4_drifted : GoodIn wsL_law wsX4_drifted := goodIn_r _ [234, 235, 236, 237, 5, 238, 165, 55, 167, 168, 169, 170, 52, 53, 54, 171, 184, 185, 186, 187, 115, 631, 632, 633, 634, 635, 636, 637, 638, 639, 640, 641, 642, 643, 644, 645, 646] (by decide +kernel) (by decide +kernel)
set_option maxRecDepth 20000 in
theorem gL_law_X4_drifted : GoodIn wsL_law (wsV RL 118 RX4 yX4_drifted wsX4_drifted) := goodIn_app (goodIn_of _ (by decide +kernel)) ggL_law_X4_drifted
set_option maxRecDepth 20000 in
theorem ggL_law_L_insert : GoodIn wsL_law wsL_insert := goodIn_ca (goodIn_ca (goodIn_r _ [241, 65, 66, 242, 243, 244, 2, 245, 71, 72, 21, 246, 247, 248, 76, 77, 249, 250, 251, 252, 253, 254, 255, 256, 257, 258, 259, 20, 260, 41, 261, 262, 263, 264, 265, 150, 142, 143, 144, 145, 28, 146, 147, 148, 149, 266, 267, 268, 269, 40, 270, 271, 272, 273, 624, 625, 626, 627, 628, 629, 630, 652, 653] (by decide +kernel) (by decide +kernel)) (goodIn_sub (fun _ h => List.mem_append_left _ (List.mem_append_left _ (List.mem_append_right _ h))) (by decide +kernel))) (goodIn_sub (fun _ h => List.mem_append_left _ (List.mem_append_right _ h)) (by decide +kernel))
set_option maxRecDepth 20000 in
theorem gL_law_L_insert : GoodIn wsL_law (va_wsS RL 119 yL_insert wsL_insert) := goodIn_app (goodIn_of _ (by decide +kernel)) ggL_law_L_insert
set_option maxRecDepth 20000 in
theorem ggL_law_X4_insert : GoodIn wsL_law wsX4_insert := goodIn_r _ [277, 56, 166, 278, 165, 57, 279, 280, 5, 281, 108, 109, 110, 282, 283, 284, 285, 286, 111, 112, 113, 114, 115, 631, 632, 633, 634, 635, 636, 637, 638, 639, 640, 641, 642, 643, 644, 645, 646] (by decide +kernel) (by decide +kernel)
set_option maxRecDepth 20000 in
theorem gL_law_X4_insert : GoodIn wsL_law (wsV RL 121 RX4 yX4_insert wsX4_insert) := goodIn_app (goodIn_of _ (by decide +kernel)) ggL_law_X4_insert
set_option maxRecDepth 20000 in
theorem ggL_law_L_write : GoodIn wsL_law wsL_write := goodIn_ca (goodIn_ca (goodIn_r _ [289, 65, 127, 290, 291, 292, 2, 293, 21, 246, 247, 248, 76, 77, 78, 79, 80, 81, 82, 83, 249, 250, 251, 252, 253, 254, 255, 256, 294, 295, 296, 297, 136, 137, 257, 258, 259, 20, 260, 41, 298, 299, 300, 301, 40, 266, 267, 268, 269, 624, 625, 626, 627, 628, 629, 630, 652, 653] (by decide +kernel) (by decide +kernel)) (goodIn_sub (fun _ h => List.mem_append_left _ (List.mem_append_right _ h)) (by decide +kernel))) (goodIn_sub (fun _ h => List.mem_append_right _ h) (by decide +kernel))
set_option maxRecDepth 20000 in
theorem gL_law_L_write : GoodIn wsL_law (va_wsS RL 122 yL_write wsL_write) := goodIn_app (goodIn_of _ (by decide +kernel)) ggL_law_L_write
set_option maxRecDepth 20000 in
theorem ggL_law_X4_write : GoodIn wsL_law wsX4_write := goodIn_r _ [305, 57, 108, 109, 5, 110, 282, 283, 284, 285, 286, 306, 307, 308, 309, 56, 279, 280, 281, 111, 112, 113, 114, 115, 631, 632, 633, 634, 635, 636, 637, 638, 639, 640, 641, 642, 643, 644, 645, 646] (by decide +kernel) (by decide +kernel)
set_option maxRecDepth 20000 in
theorem gL_law_X4_write : GoodIn wsL_law (wsV RL 124 RX4 yX4_write wsX4_write) := goodIn_app (goodIn_of _ (by decide +kernel)) ggL_law_X4_write
set_option maxRecDepth 20000 in
theorem ggL_law_L_delete : GoodIn wsL_law wsL_delete := goodIn_ca (goodIn_ca (goodIn_r _ [312, 65, 127, 313, 314, 315, 2, 316, 21, 246, 247, 248, 76, 77, 294, 295, 296, 297, 136, 137, 257, 258, 259, 20, 260, 41, 317, 318, 319, 320, 270, 271, 272, 273, 624, 625, 626, 627, 628, 629, 630, 652, 653] (by decide +kernel) (by decide +kernel)) (goodIn_sub (fun _ h => List.mem_append_left _ (List.mem_append_right _ h)) (by decide +kernel))) (goodIn_sub (fun _ h => List.mem_append_right _ h) (by decide +kernel))
set_option maxRecDepth 20000 in
theorem gL_law_L_delete : GoodIn wsL_law (va_wsS RL 125 yL_delete wsL_delete) := goodIn_app (goodIn_of _ (by decide +kernel)) ggL_law_L_delete
set_option maxRecDepth 20000 in
theorem ggL_law_X4_delete : GoodIn wsL_law wsX4_delete := goodIn_r _ [324, 56, 306, 307, 308, 5, 309, 279, 280, 281, 108, 109, 110, 111, 112, 113, 114, 115, 631, 632, 633, 634, 635, 636, 637, 638, 639, 640, 641, 642, 643, 644, 645, 646] (by decide +kernel) (by decide +kernel)
set_option maxRecDepth 20000 in
theorem gL_law_X4_delete : GoodIn wsL_law (wsV RL 127 RX4 yX4_delete wsX4_delete) := goodIn_app (goodIn_of _ (by decide +kernel)) ggL_law_X4_delete
set_option maxRecDepth 20000 in
theorem ggL_law_L_value : GoodIn wsL_law wsL_value := goodIn_ca (goodIn_ca (goodIn_r _ [327, 65, 127, 328, 329, 330, 2, 331, 21, 246, 247, 248, 76, 77, 78, 79, 80, 81, 82, 83, 294, 295, 296, 297, 136, 137, 257, 258, 259, 20, 260, 41, 298, 299, 300, 301, 40, 624, 625, 626, 627, 628, 629, 630, 652, 653] (by decide +kernel) (by decide +kernel)) (goodIn_sub (fun _ h => List.mem_append_left _ (List.mem_append_right _ h)) (by decide +kernel))) (goodIn_sub (fun _ h => List.mem_append_right _ h) (by decide +kernel))
set_option maxRecDepth 20000 in
theorem gL_law_L_value : GoodIn wsL_law (va_wsS RL 128 yL_value wsL_value) := goodIn_app (goodIn_of _ (by decide +kernel)) ggL_law_L_value
set_option maxRecDepth 20000 in
theorem ggL_law_X4_value : GoodIn wsL_law wsX4_value := goodIn_r _ [335, 57, 108, 109, 5, 110, 306, 307, 308, 309, 56, 279, 280, 281, 111, 112, 113, 114, 115, 631, 632, 633, 634, 635, 636, 637, 638, 639, 640, 641, 642, 643, 644, 645, 646] (by decide +kernel) (by decide +kernel)
set_option maxRecDepth 20000 in
theorem gL_law_X4_value : GoodIn wsL_law (wsV RL 131 RX4 yX4_value wsX4_value) := goodIn_app (goodIn_of _ (by decide +kernel)) ggL_law_X4_value
set_option maxRecDepth 20000 in
theorem ggL_law_L_version : GoodIn wsL_law wsL_version := goodIn_ca (goodIn_r _ [338, 65, 339, 340, 341, 2, 342, 21, 246, 247, 248, 76, 77, 317, 318, 319, 20, 320, 41, 624, 625, 626, 627, 628, 629, 630, 652, 653] (by decide +kernel) (by decide +kernel)) (goodIn_sub (fun _ h => List.mem_append_left _ (List.mem_append_right _ h)) (by decide +kernel))
set_option maxRecDepth 20000 in
theorem gL_law_L_version : GoodIn wsL_law (va_wsS RL 132 yL_version wsL_version) := goodIn_app (goodIn_of _ (by decide +kernel)) ggL_law_L_version
set_option maxRecDepth 20000 in
theorem ggL_law_X4_version : GoodIn wsL_law wsX4_version := goodIn_r _ [346, 56, 279, 280, 5, 281, 108, 109, 110, 111, 112, 113, 114, 115, 631, 632, 633, 634, 635, 636, 637, 638, 639, 640, 641, 642, 643, 644, 645, 646] (by decide +kernel) (by decide +kernel)
set_option maxRecDepth 20000 in
theorem gL_law_X4_version : GoodIn wsL_law (wsV RL 134 RX4 yX4_version wsX4_version) := goodIn_app (goodIn_of _ (by decide +kernel)) ggL_law_X4_version
set_option maxRecDepth 20000 in
theorem ggL_law_L_rowsAt : GoodIn wsL_law wsL_rowsAt := goodIn_ca (goodIn_r _ [349, 65, 350, 351, 352, 2, 353, 76, 77, 21, 354, 355, 356, 20, 357, 41, 624, 625, 626, 627, 628, 629, 630, 652, 653] (by decide +kernel) (by decide +kernel)) (goodIn_sub (fun _ h => List.mem_append_left _ (List.mem_append_right _ h)) (by decide +kernel))
set_option maxRecDepth 20000 in
theorem gL_law_L_rowsAt : GoodIn wsL_law (va_wsS RL 135 yL_rowsAt wsL_rowsAt) := goodIn_app (goodIn_of _ (by decide +kernel)) ggL_law_L_rowsAt
set_option maxRecDepth 20000 in
theorem ggL_law_X4_rowsAt : GoodIn wsL_law wsX4_rowsAt := goodIn_r _ [361, 56, 108, 109, 5, 110, 111, 112, 113, 114, 115, 631, 632, 633, 634, 635, 636, 637, 638, 639, 640, 641, 642, 643, 644, 645, 646] (by decide +kernel) (by decide +kernel)
set_option maxRecDepth 20000 in
theorem gL_law_X4_rowsAt : GoodIn wsL_law (wsV RL 137 RX4 yX4_rowsAt wsX4_rowsAt) := goodIn_app (goodIn_of _ (by decide +kernel)) ggL_law_X4_rowsAt
set_option maxRecDepth 20000 in
theorem ggL_law_L_valueAt : GoodIn wsL_law wsL_valueAt := goodIn_ca (goodIn_ca (goodIn_ca (goodIn_r _ [364, 65, 127, 66, 365, 366, 367, 2, 368, 76, 77, 71, 72, 17, 21, 27, 246, 247, 248, 78, 79, 80, 81, 82, 83, 176, 177, 178, 16, 179, 91, 294, 295, 296, 297, 136, 137, 257, 258, 259, 20, 260, 41, 369, 370, 371, 372, 373, 299, 300, 301, 40, 317, 318, 319, 320, 374, 375, 376, 377, 378, 379, 380, 381, 33, 34, 32, 382, 383, 384, 253, 254, 255, 256, 385, 386, 387, 388, 389, 390, 391, 624, 625, 626, 627, 628, 629, 630, 647, 648, 649, 650, 651, 652, 653] (by decide +kernel) (by decide +kernel)) (goodIn_sub (fun _ h => List.mem_append_left _ (List.mem_append_right _ h)) (by decide +kernel))) (goodIn_sub (fun _ h => List.mem_append_left _ (List.mem_append_left _ (List.mem_append_right _ h))) (by decide +kernel))) (goodIn_sub (fun _ h => List.mem_append_right _ h) (by decide +kernel))
set_option maxRecDepth 20000 in
theorem gL_law_L_valueAt : GoodIn wsL_law (va_wsS RL 138 yL_valueAt wsL_valueAt) := goodIn_app (goodIn_of _ (by decide +kernel)) ggL_law_L_valueAt
set_option maxRecDepth 20000 in
theorem ggL_law_X4_valueAt : GoodIn wsL_law wsX4_valueAt := goodIn_r _ [395, 104, 56, 58, 108, 109, 5, 110, 306, 307, 308, 309, 279, 280, 281, 111, 112, 113, 114, 115, 396, 397, 398, 399, 57, 400, 401, 402, 403, 53, 54, 52, 282, 283, 284, 285, 286, 631, 632, 633, 634, 635, 636, 637, 638, 639, 640, 641, 642, 643, 644, 645, 646] (by decide +kernel) (by decide +kernel)
set_option maxRecDepth 20000 in
theorem gL_law_X4_valueAt : GoodIn wsL_law (wsV RL 140 RX4 yX4_valueAt wsX4_valueAt) := goodIn_app (goodIn_of _ (by decide +kernel)) ggL_law_X4_valueAt
set_option maxRecDepth 20000 in
theorem ggL_law_L_take : GoodIn wsL_law wsL_take := goodIn_ca (goodIn_ca (goodIn_r _ [406, 65, 66, 407, 408, 409, 2, 410, 76, 77, 71, 72, 25, 411, 412, 413, 414, 415, 416, 417, 418, 419, 420, 24, 421, 46, 422, 423, 424, 425, 426, 427, 47, 428, 429, 430, 431, 624, 625, 626, 627, 628, 629, 630, 654, 655, 656, 657] (by decide +kernel) (by decide +kernel)) (goodIn_sub (fun _ h => List.mem_append_left _ (List.mem_append_right _ h)) (by decide +kernel))) (goodIn_sub (fun _ h => List.mem_append_left _ (List.mem_append_left _ (List.mem_append_right _ h))) (by decide +kernel))
set_option maxRecDepth 20000 in
theorem gL_law_L_take : GoodIn wsL_law (va_wsS RL 141 yL_take wsL_take) := goodIn_app (goodIn_of _ (by decide +kernel)) ggL_law_L_take
set_option maxRecDepth 20000 in
theorem ggL_law_X4_take : GoodIn wsL_law wsX4_take := goodIn_r _ [435, 60, 59, 436, 437, 438, 439, 5, 440, 108, 109, 110, 441, 442, 443, 444, 111, 112, 113, 114, 115, 631, 632, 633, 634, 635, 636, 637, 638, 639, 640, 641, 642, 643, 644, 645, 646] (by decide +kernel) (by decide +kernel)
set_option maxRecDepth 20000 in
theorem gL_law_X4_take : GoodIn wsL_law (wsV RL 143 RX4 yX4_take wsX4_take) := goodIn_app (goodIn_of _ (by decide +kernel)) ggL_law_X4_take
set_option maxRecDepth 20000 in
theorem ggL_law_L_giveBack : GoodIn wsL_law wsL_giveBack := goodIn_ca (goodIn_ca (goodIn_r _ [447, 65, 66, 448, 449, 450, 2, 451, 25, 411, 412, 413, 76, 77, 452, 453, 454, 455, 71, 72, 414, 415, 416, 417, 418, 419, 420, 24, 421, 46, 422, 423, 424, 425, 426, 427, 47, 456, 457, 458, 459, 624, 625, 626, 627, 628, 629, 630, 654, 655, 656, 657] (by decide +kernel) (by decide +kernel)) (goodIn_sub (fun _ h => List.mem_append_left _ (List.mem_append_right _ h)) (by decide +kernel))) (goodIn_sub (fun _ h => List.mem_append_left _ (List.mem_append_left _ (List.mem_append_right _ h))) (by decide +kernel))
set_option maxRecDepth 20000 in
theorem gL_law_L_giveBack : GoodIn wsL_law (va_wsS RL 144 yL_giveBack wsL_giveBack) := goodIn_app (goodIn_of _ (by decide +kernel)) ggL_law_L_giveBack
set_option maxRecDepth 20000 in
theorem ggL_law_X4_giveBack : GoodIn wsL_law wsX4_giveBack := goodIn_r _ [463, 59, 438, 439, 5, 440, 108, 109, 110, 464, 465, 466, 467, 60, 468, 469, 470, 471, 441, 442, 443, 444, 436, 437, 111, 112, 113, 114, 115, 631, 632, 633, 634, 635, 636, 637, 638, 639, 640, 641, 642, 643, 644, 645, 646] (by decide +kernel) (by decide +kernel)
set_option maxRecDepth 20000 in
theorem gL_law_X4_giveBack : GoodIn wsL_law (wsV RL 147 RX4 yX4_giveBack wsX4_giveBack) := goodIn_app (goodIn_of _ (by decide +kernel)) ggL_law_X4_giveBack
set_option maxRecDepth 20000 in
theorem ggL_law_X3_holder : GoodIn wsL_law wsX3_holder := goodIn_r _ [475, 25, 422, 423, 424, 24, 425, 426, 427, 47, 624, 625, 626, 627, 628, 629, 630, 654, 655, 656, 657] (by decide +kernel) (by decide +kernel)
set_option maxRecDepth 20000 in
theorem gL_law_X3_holder : GoodIn wsL_law (wsV RL 148 RX3 yX3_holder wsX3_holder) := goodIn_app (goodIn_of _ (by decide +kernel)) ggL_law_X3_holder
set_option maxRecDepth 20000 in
theorem ggL_law_X4_holder : GoodIn wsL_law wsX4_holder := goodIn_r _ [479, 59, 441, 442, 443, 5, 444, 436, 437, 184, 185, 186, 187, 115, 631, 632, 633, 634, 635, 636, 637, 638, 639, 640, 641, 642, 643, 644, 645, 646] (by decide +kernel) (by decide +kernel)
set_option maxRecDepth 20000 in
theorem gL_law_X4_holder : GoodIn wsL_law (wsV RL 151 RX4 yX4_holder wsX4_holder) := goodIn_app (goodIn_of _ (by decide +kernel)) ggL_law_X4_holder
set_option maxRecDepth 20000 in
theorem ggL_law_L_restart : GoodIn wsL_law wsL_restart := goodIn_ca (goodIn_ca (goodIn_r _ [482, 65, 66, 483, 484, 485, 2, 486, 71, 72, 25, 411, 412, 413, 76, 77, 418, 419, 420, 24, 421, 46, 487, 488, 489, 490, 422, 423, 424, 425, 426, 427, 47, 624, 625, 626, 627, 628, 629, 630, 654, 655, 656, 657] (by decide +kernel) (by decide +kernel)) (goodIn_sub (fun _ h => List.mem_append_left _ (List.mem_append_left _ (List.mem_append_right _ h))) (by decide +kernel))) (goodIn_sub (fun _ h => List.mem_append_left _ (List.mem_append_right _ h)) (by decide +kernel))
set_option maxRecDepth 20000 in
theorem gL_law_L_restart : GoodIn wsL_law (va_wsS RL 152 yL_restart wsL_restart) := goodIn_app (goodIn_of _ (by decide +kernel)) ggL_law_L_restart
set_option maxRecDepth 20000 in
theorem ggL_law_X4_restart : GoodIn wsL_law wsX4_restart := goodIn_r _ [494, 60, 438, 439, 5, 440, 108, 109, 110, 111, 112, 113, 114, 115, 468, 469, 470, 471, 59, 441, 442, 443, 444, 436, 437, 631, 632, 633, 634, 635, 636, 637, 638, 639, 640, 641, 642, 643, 644, 645, 646] (by decide +kernel) (by decide +kernel)
set_option maxRecDepth 20000 in
theorem gL_law_X4_restart : GoodIn wsL_law (wsV RL 154 RX4 yX4_restart wsX4_restart) := goodIn_app (goodIn_of _ (by decide +kernel)) ggL_law_X4_restart
set_option maxRecDepth 20000 in
theorem ggL_law_L_pass : GoodIn wsL_law wsL_pass := goodIn_ca (goodIn_r _ [497, 65, 498, 499, 500, 2, 501, 76, 77, 25, 502, 503, 504, 24, 505, 426, 624, 625, 626, 627, 628, 629, 630, 654, 655, 656, 657] (by decide +kernel) (by decide +kernel)) (goodIn_sub (fun _ h => List.mem_append_left _ (List.mem_append_right _ h)) (by decide +kernel))
set_option maxRecDepth 20000 in
theorem gL_law_L_pass : GoodIn wsL_law (va_wsS RL 155 yL_pass wsL_pass) := goodIn_app (goodIn_of _ (by decide +kernel)) ggL_law_L_pass
set_option maxRecDepth 20000 in
theorem ggL_law_X4_pass : GoodIn wsL_law wsX4_pass := goodIn_r _ [509, 436, 108, 109, 5, 110, 111, 112, 113, 114, 115, 631, 632, 633, 634, 635, 636, 637, 638, 639, 640, 641, 642, 643, 644, 645, 646] (by decide +kernel) (by decide +kernel)
set_option maxRecDepth 20000 in
theorem gL_law_X4_pass : GoodIn wsL_law (wsV RL 157 RX4 yX4_pass wsX4_pass) := goodIn_app (goodIn_of _ (by decide +kernel)) ggL_law_X4_pass
set_option maxRecDepth 20000 in
theorem ggL_law_L_begin : GoodIn wsL_law wsL_begin := goodIn_ca (goodIn_ca (goodIn_r _ [512, 65, 66, 513, 514, 515, 2, 516, 71, 72, 17, 150, 28, 265, 411, 412, 413, 76, 77, 452, 453, 454, 455, 25, 414, 415, 416, 417, 418, 419, 420, 24, 421, 46, 422, 423, 424, 425, 426, 427, 47, 142, 143, 144, 145, 222, 223, 224, 16, 225, 226, 227, 228, 229, 35, 230, 153, 154, 155, 32, 33, 34, 156, 176, 177, 178, 179, 91, 146, 147, 148, 149, 517, 518, 519, 520, 624, 625, 626, 627, 628, 629, 630, 654, 655, 656, 657, 647, 648, 649, 650, 651] (by decide +kernel) (by decide +kernel)) (goodIn_sub (fun _ h => List.mem_append_left _ (List.mem_append_left _ (List.mem_append_right _ h))) (by decide +kernel))) (goodIn_sub (fun _ h => List.mem_append_left _ (List.mem_append_right _ h)) (by decide +kernel))
set_option maxRecDepth 20000 in
theorem gL_law_L_begin : GoodIn wsL_law (va_wsS RL 158 yL_begin wsL_begin) := goodIn_app (goodIn_of _ (by decide +kernel)) ggL_law_L_begin
set_option maxRecDepth 20000 in
theorem ggL_law_X4_begin : GoodIn wsL_law wsX4_begin := goodIn_r _ [524, 166, 165, 104, 278, 55, 438, 439, 5, 440, 108, 109, 110, 464, 465, 466, 467, 60, 468, 469, 470, 471, 59, 441, 442, 443, 444, 436, 437, 235, 236, 237, 238, 167, 168, 169, 170, 52, 53, 54, 171, 111, 112, 113, 114, 115, 631, 632, 633, 634, 635, 636, 637, 638, 639, 640, 641, 642, 643, 644, 645, 646] (by decide +kernel) (by decide +kernel)
set_option maxRecDepth 20000 in
theorem gL_law_X4_begin : GoodIn wsL_law (wsV RL 160 RX4 yX4_begin wsX4_begin) := goodIn_app (goodIn_of _ (by decide +kernel)) ggL_law_X4_begin
set_option maxRecDepth 20000 in
theorem ggL_law_L_undo : GoodIn wsL_law wsL_undo := goodIn_ca (goodIn_ca (goodIn_r _ [527, 65, 66, 528, 529, 530, 2, 531, 71, 72, 28, 150, 265, 411, 412, 413, 76, 77, 452, 453, 454, 455, 25, 414, 415, 416, 417, 418, 419, 420, 24, 421, 46, 422, 423, 424, 425, 426, 427, 47, 532, 533, 534, 535, 17, 536, 227, 228, 16, 229, 35, 230, 153, 154, 155, 32, 33, 34, 156, 146, 147, 148, 149, 624, 625, 626, 627, 628, 629, 630, 654, 655, 656, 657, 647, 648, 649, 650, 651] (by decide +kernel) (by decide +kernel)) (goodIn_sub (fun _ h => List.mem_append_left _ (List.mem_append_left _ (List.mem_append_right _ h))) (by decide +kernel))) (goodIn_sub (fun _ h => List.mem_append_left _ (List.mem_append_right _ h)) (by decide +kernel))
set_option maxRecDepth 20000 in
theorem gL_law_L_undo : GoodIn wsL_law (va_wsS RL 161 yL_undo wsL_undo) := goodIn_app (goodIn_of _ (by decide +kernel)) ggL_law_L_undo
set_option maxRecDepth 20000 in
theorem ggL_law_X4_undo : GoodIn wsL_law wsX4_undo := goodIn_r _ [540, 166, 165, 55, 278, 167, 168, 169, 5, 170, 52, 53, 54, 171, 438, 439, 440, 108, 109, 110, 464, 465, 466, 467, 60, 468, 469, 470, 471, 59, 441, 442, 443, 444, 436, 437, 111, 112, 113, 114, 115, 631, 632, 633, 634, 635, 636, 637, 638, 639, 640, 641, 642, 643, 644, 645, 646] (by decide +kernel) (by decide +kernel)
set_option maxRecDepth 20000 in
theorem gL_law_X4_undo : GoodIn wsL_law (wsV RL 163 RX4 yX4_undo wsX4_undo) := goodIn_app (goodIn_of _ (by decide +kernel)) ggL_law_X4_undo
set_option maxRecDepth 20000 in
theorem ggL_law_L_step : GoodIn wsL_law wsL_step := goodIn_ca (goodIn_ca (goodIn_r _ [543, 65, 66, 544, 545, 546, 2, 547, 76, 77, 548, 549, 550, 551, 411, 412, 413, 452, 453, 454, 455, 71, 72, 25, 414, 415, 416, 417, 418, 419, 420, 24, 421, 46, 422, 423, 424, 425, 426, 427, 47, 552, 553, 554, 555, 142, 143, 144, 145, 28, 556, 557, 558, 559, 265, 560, 561, 562, 563, 564, 565, 566, 567, 568, 569, 570, 571, 21, 257, 258, 259, 20, 260, 41, 317, 318, 319, 320, 146, 147, 148, 149, 150, 572, 573, 574, 575, 27, 369, 370, 371, 372, 373, 299, 300, 301, 40, 374, 375, 376, 377, 17, 378, 379, 380, 16, 381, 33, 34, 32, 382, 383, 384, 253, 254, 255, 256, 385, 386, 387, 388, 389, 390, 391, 576, 577, 578, 579, 580, 267, 268, 269, 270, 271, 272, 273, 581, 582, 583, 584, 487, 488, 489, 490, 585, 586, 587, 588, 624, 625, 626, 627, 628, 629, 630, 654, 655, 656, 657, 652, 653, 647, 648, 649, 650, 651] (by decide +kernel) (by decide +kernel)) (goodIn_sub (fun _ h => List.mem_append_left _ (List.mem_append_right _ h)) (by decide +kernel))) (goodIn_sub (fun _ h => List.mem_append_left _ (List.mem_append_left _ (List.mem_append_right _ h))) (by decide +kernel))
set_option maxRecDepth 20000 in
theorem gL_law_L_step : GoodIn wsL_law (va_wsS RL 164 yL_step wsL_step) := goodIn_app (goodIn_of _ (by decide +kernel)) ggL_law_L_step
set_option maxRecDepth 20000 in
theorem ggL_law_X4_step : GoodIn wsL_law wsX4_step := goodIn_r _ [592, 166, 165, 278, 56, 57, 58, 60, 438, 439, 5, 440, 108, 109, 110, 464, 465, 466, 467, 468, 469, 470, 471, 59, 441, 442, 443, 444, 436, 437, 111, 112, 113, 114, 115, 396, 397, 398, 399, 400, 401, 402, 403, 53, 54, 52, 282, 283, 284, 285, 286, 631, 632, 633, 634, 635, 636, 637, 638, 639, 640, 641, 642, 643, 644, 645, 646] (by decide +kernel) (by decide +kernel)
set_option maxRecDepth 20000 in
theorem gL_law_X4_step : GoodIn wsL_law (wsV RL 166 RX4 yX4_step wsX4_step) := goodIn_app (goodIn_of _ (by decide +kernel)) ggL_law_X4_step
set_option maxRecDepth 20000 in
theorem ggL_law_L_cursor : GoodIn wsL_law wsL_cursor := goodIn_ca (goodIn_r _ [595, 66, 596, 597, 598, 2, 599, 265, 552, 553, 554, 555, 71, 72, 142, 143, 144, 145, 28, 624, 625, 626, 627, 628, 629, 630] (by decide +kernel) (by decide +kernel)) (goodIn_sub (fun _ h => List.mem_append_left _ (List.mem_append_left _ (List.mem_append_right _ h))) (by decide +kernel))
set_option maxRecDepth 20000 in
theorem gL_law_L_cursor : GoodIn wsL_law (va_wsS RL 167 yL_cursor wsL_cursor) := goodIn_app (goodIn_of _ (by decide +kernel)) ggL_law_L_cursor
set_option maxRecDepth 20000 in
theorem ggL_law_X4_cursor : GoodIn wsL_law wsX4_cursor := goodIn_r _ [603, 166, 278, 111, 112, 113, 5, 114, 115, 631, 632, 633, 634, 635, 636, 637, 638, 639, 640, 641, 642, 643, 644, 645, 646] (by decide +kernel) (by decide +kernel)
set_option maxRecDepth 20000 in
theorem gL_law_X4_cursor : GoodIn wsL_law (wsV RL 170 RX4 yX4_cursor wsX4_cursor) := goodIn_app (goodIn_of _ (by decide +kernel)) ggL_law_X4_cursor
set_option maxRecDepth 20000 in
theorem ggL_law_L_share : GoodIn wsL_law wsL_share := goodIn_ca (goodIn_r _ [606, 66, 607, 608, 609, 2, 610, 71, 72, 21, 552, 553, 554, 555, 142, 143, 144, 145, 28, 611, 612, 613, 20, 614, 615, 616, 617, 618, 41, 146, 147, 148, 149, 150, 619, 624, 625, 626, 627, 628, 629, 630, 652, 653] (by decide +kernel) (by decide +kernel)) (goodIn_sub (fun _ h => List.mem_append_left _ (List.mem_append_left _ (List.mem_append_right _ h))) (by decide +kernel))
set_option maxRecDepth 20000 in
theorem gL_law_L_share : GoodIn wsL_law (va_wsS RL 171 yL_share wsL_share) := goodIn_app (goodIn_of _ (by decide +kernel)) ggL_law_L_share
set_option maxRecDepth 20000 in
theorem ggL_law_X4_share : GoodIn wsL_law wsX4_share := goodIn_r _ [623, 56, 165, 166, 111, 112, 113, 5, 114, 115, 631, 632, 633, 634, 635, 636, 637, 638, 639, 640, 641, 642, 643, 644, 645, 646] (by decide +kernel) (by decide +kernel)
set_option maxRecDepth 20000 in
theorem gL_law_X4_share : GoodIn wsL_law (wsV RL 174 RX4 yX4_share wsX4_share) := goodIn_app (goodIn_of _ (by decide +kernel)) ggL_law_X4_share
theorem dL_law_0 : decode cL_law 0 = .ok (.new 8, 3) := by decide +kernel
theorem dL_law_3 : decode cL_law 3 = .ok (.dup, 1) := by decide +kernel
theorem dL_law_4 : decode cL_law 4 = .ok (.invokespecial 83, 3) := by decide +kernel
theorem dL_law_7 : decode cL_law 7 = .ok (.astore_n 1, 1) := by decide +kernel
theorem dL_law_8 : decode cL_law 8 = .ok (.new 84, 3) := by decide +kernel
theorem dL_law_11 : decode cL_law 11 = .ok (.dup, 1) := by decide +kernel
theorem dL_law_12 : decode cL_law 12 = .ok (.invokespecial 86, 3) := by decide +kernel
theorem dL_law_15 : decode cL_law 15 = .ok (.astore_n 2, 1) := by decide +kernel
theorem dL_law_16 : decode cL_law 16 = .ok (.iconst 1, 1) := by decide +kernel
theorem dL_law_17 : decode cL_law 17 = .ok (.newarray .long, 2) := by decide +kernel
theorem dL_law_19 : decode cL_law 19 = .ok (.astore_n 3, 1) := by decide +kernel
theorem dL_law_20 : decode cL_law 20 = .ok (.iconst 1, 1) := by decide +kernel
theorem dL_law_21 : decode cL_law 21 = .ok (.newarray .double, 2) := by decide +kernel
theorem dL_law_23 : decode cL_law 23 = .ok (.astore 4, 2) := by decide +kernel
theorem dL_law_25 : decode cL_law 25 = .ok (.iconst 0, 1) := by decide +kernel
theorem dL_law_26 : decode cL_law 26 = .ok (.istore 5, 2) := by decide +kernel
theorem dL_law_28 : decode cL_law 28 = .ok (.iload 5, 2) := by decide +kernel
theorem dL_law_30 : decode cL_law 30 = .ok (.aload_n 0, 1) := by decide +kernel
theorem dL_law_31 : decode cL_law 31 = .ok (.arraylength, 1) := by decide +kernel
theorem dL_law_32 : decode cL_law 32 = .ok (.iconst 5, 1) := by decide +kernel
theorem dL_law_33 : decode cL_law 33 = .ok (.isub, 1) := by decide +kernel
theorem dL_law_34 : decode cL_law 34 = .ok (.if_icmp .gt 1477, 3) := by decide +kernel
theorem dL_law_37 : decode cL_law 37 = .ok (.aload_n 0, 1) := by decide +kernel
theorem dL_law_38 : decode cL_law 38 = .ok (.iload 5, 2) := by decide +kernel
theorem dL_law_40 : decode cL_law 40 = .ok (.iaload, 1) := by decide +kernel
theorem dL_law_41 : decode cL_law 41 = .ok (.bipush 31, 2) := by decide +kernel
theorem dL_law_43 : decode cL_law 43 = .ok (.iand, 1) := by decide +kernel
theorem dL_law_44 : decode cL_law 44 = .ok (.tableswitch 1461 0 23 #[112, 192, 284, 297, 353, 409, 422, 435, 527, 607, 663, 731, 787, 843, 923, 991, 1027, 1040, 1103, 1159, 1215, 1271, 1351, 1395], 112) := by decide +kernel
theorem dL_law_156 : decode cL_law 156 = .ok (.aload_n 1, 1) := by decide +kernel
theorem dL_law_157 : decode cL_law 157 = .ok (.aload_n 0, 1) := by decide +kernel
theorem dL_law_158 : decode cL_law 158 = .ok (.iload 5, 2) := by decide +kernel
theorem dL_law_160 : decode cL_law 160 = .ok (.iconst 1, 1) := by decide +kernel
theorem dL_law_161 : decode cL_law 161 = .ok (.iadd, 1) := by decide +kernel
theorem dL_law_162 : decode cL_law 162 = .ok (.iaload, 1) := by decide +kernel
theorem dL_law_163 : decode cL_law 163 = .ok (.aload_n 0, 1) := by decide +kernel
theorem dL_law_164 : decode cL_law 164 = .ok (.iload 5, 2) := by decide +kernel
theorem dL_law_166 : decode cL_law 166 = .ok (.iconst 2, 1) := by decide +kernel
theorem dL_law_167 : decode cL_law 167 = .ok (.iadd, 1) := by decide +kernel
theorem dL_law_168 : decode cL_law 168 = .ok (.iaload, 1) := by decide +kernel
theorem dL_law_169 : decode cL_law 169 = .ok (.aload_n 0, 1) := by decide +kernel
theorem dL_law_170 : decode cL_law 170 = .ok (.iload 5, 2) := by decide +kernel
theorem dL_law_172 : decode cL_law 172 = .ok (.iconst 3, 1) := by decide +kernel
theorem dL_law_173 : decode cL_law 173 = .ok (.iadd, 1) := by decide +kernel
theorem dL_law_174 : decode cL_law 174 = .ok (.iaload, 1) := by decide +kernel
theorem dL_law_175 : decode cL_law 175 = .ok (.aload_n 3, 1) := by decide +kernel
theorem dL_law_176 : decode cL_law 176 = .ok (.invokestatic 87, 3) := by decide +kernel
theorem dL_law_179 : decode cL_law 179 = .ok (.istore 6, 2) := by decide +kernel
theorem dL_law_181 : decode cL_law 181 = .ok (.aload_n 2, 1) := by decide +kernel
theorem dL_law_182 : decode cL_law 182 = .ok (.aload_n 0, 1) := by decide +kernel
theorem dL_law_183 : decode cL_law 183 = .ok (.iload 5, 2) := by decide +kernel
theorem dL_law_185 : decode cL_law 185 = .ok (.iconst 1, 1) := by decide +kernel
theorem dL_law_186 : decode cL_law 186 = .ok (.iadd, 1) := by decide +kernel
theorem dL_law_187 : decode cL_law 187 = .ok (.iaload, 1) := by decide +kernel
theorem dL_law_188 : decode cL_law 188 = .ok (.aload_n 0, 1) := by decide +kernel
theorem dL_law_189 : decode cL_law 189 = .ok (.iload 5, 2) := by decide +kernel
theorem dL_law_191 : decode cL_law 191 = .ok (.iconst 2, 1) := by decide +kernel
theorem dL_law_192 : decode cL_law 192 = .ok (.iadd, 1) := by decide +kernel
theorem dL_law_193 : decode cL_law 193 = .ok (.iaload, 1) := by decide +kernel
theorem dL_law_194 : decode cL_law 194 = .ok (.aload_n 0, 1) := by decide +kernel
theorem dL_law_195 : decode cL_law 195 = .ok (.iload 5, 2) := by decide +kernel
theorem dL_law_197 : decode cL_law 197 = .ok (.iconst 3, 1) := by decide +kernel
theorem dL_law_198 : decode cL_law 198 = .ok (.iadd, 1) := by decide +kernel
theorem dL_law_199 : decode cL_law 199 = .ok (.iaload, 1) := by decide +kernel
theorem dL_law_200 : decode cL_law 200 = .ok (.invokevirtual 92, 3) := by decide +kernel
theorem dL_law_203 : decode cL_law 203 = .ok (.istore 7, 2) := by decide +kernel
theorem dL_law_205 : decode cL_law 205 = .ok (.aload_n 2, 1) := by decide +kernel
theorem dL_law_206 : decode cL_law 206 = .ok (.invokevirtual 93, 3) := by decide +kernel
theorem dL_law_209 : decode cL_law 209 = .ok (.iload 6, 2) := by decide +kernel
theorem dL_law_211 : decode cL_law 211 = .ok (.if_icmp .eq 5, 3) := by decide +kernel
theorem dL_law_214 : decode cL_law 214 = .ok (.iconst 0, 1) := by decide +kernel
theorem dL_law_215 : decode cL_law 215 = .ok (.ireturn, 1) := by decide +kernel
theorem dL_law_216 : decode cL_law 216 = .ok (.iload 6, 2) := by decide +kernel
theorem dL_law_218 : decode cL_law 218 = .ok (.ifCond .ne 15, 3) := by decide +kernel
theorem dL_law_221 : decode cL_law 221 = .ok (.aload_n 3, 1) := by decide +kernel
theorem dL_law_222 : decode cL_law 222 = .ok (.iconst 0, 1) := by decide +kernel
theorem dL_law_223 : decode cL_law 223 = .ok (.laload, 1) := by decide +kernel
theorem dL_law_224 : decode cL_law 224 = .ok (.iload 7, 2) := by decide +kernel
theorem dL_law_226 : decode cL_law 226 = .ok (.i2l, 1) := by decide +kernel
theorem dL_law_227 : decode cL_law 227 = .ok (.lcmp, 1) := by decide +kernel
theorem dL_law_228 : decode cL_law 228 = .ok (.ifCond .eq 5, 3) := by decide +kernel
theorem dL_law_231 : decode cL_law 231 = .ok (.iconst 0, 1) := by decide +kernel
theorem dL_law_232 : decode cL_law 232 = .ok (.ireturn, 1) := by decide +kernel
theorem dL_law_233 : decode cL_law 233 = .ok (.goto 1272, 3) := by decide +kernel
theorem dL_law_236 : decode cL_law 236 = .ok (.aload_n 1, 1) := by decide +kernel
theorem dL_law_237 : decode cL_law 237 = .ok (.aload_n 0, 1) := by decide +kernel
theorem dL_law_238 : decode cL_law 238 = .ok (.iload 5, 2) := by decide +kernel
theorem dL_law_240 : decode cL_law 240 = .ok (.iconst 1, 1) := by decide +kernel
theorem dL_law_241 : decode cL_law 241 = .ok (.iadd, 1) := by decide +kernel
theorem dL_law_242 : decode cL_law 242 = .ok (.iaload, 1) := by decide +kernel
theorem dL_law_243 : decode cL_law 243 = .ok (.aload_n 0, 1) := by decide +kernel
theorem dL_law_244 : decode cL_law 244 = .ok (.iload 5, 2) := by decide +kernel
theorem dL_law_246 : decode cL_law 246 = .ok (.iconst 2, 1) := by decide +kernel
theorem dL_law_247 : decode cL_law 247 = .ok (.iadd, 1) := by decide +kernel
theorem dL_law_248 : decode cL_law 248 = .ok (.iaload, 1) := by decide +kernel
theorem dL_law_249 : decode cL_law 249 = .ok (.aload_n 0, 1) := by decide +kernel
theorem dL_law_250 : decode cL_law 250 = .ok (.iload 5, 2) := by decide +kernel
theorem dL_law_252 : decode cL_law 252 = .ok (.iconst 3, 1) := by decide +kernel
theorem dL_law_253 : decode cL_law 253 = .ok (.iadd, 1) := by decide +kernel
theorem dL_law_254 : decode cL_law 254 = .ok (.iaload, 1) := by decide +kernel
theorem dL_law_255 : decode cL_law 255 = .ok (.aload_n 0, 1) := by decide +kernel
theorem dL_law_256 : decode cL_law 256 = .ok (.iload 5, 2) := by decide +kernel
theorem dL_law_258 : decode cL_law 258 = .ok (.iconst 4, 1) := by decide +kernel
theorem dL_law_259 : decode cL_law 259 = .ok (.iadd, 1) := by decide +kernel
theorem dL_law_260 : decode cL_law 260 = .ok (.iaload, 1) := by decide +kernel
theorem dL_law_261 : decode cL_law 261 = .ok (.aload_n 3, 1) := by decide +kernel
theorem dL_law_262 : decode cL_law 262 = .ok (.invokestatic 96, 3) := by decide +kernel
theorem dL_law_265 : decode cL_law 265 = .ok (.istore 6, 2) := by decide +kernel
theorem dL_law_267 : decode cL_law 267 = .ok (.aload_n 2, 1) := by decide +kernel
theorem dL_law_268 : decode cL_law 268 = .ok (.aload_n 0, 1) := by decide +kernel
theorem dL_law_269 : decode cL_law 269 = .ok (.iload 5, 2) := by decide +kernel
theorem dL_law_271 : decode cL_law 271 = .ok (.iconst 1, 1) := by decide +kernel
theorem dL_law_272 : decode cL_law 272 = .ok (.iadd, 1) := by decide +kernel
theorem dL_law_273 : decode cL_law 273 = .ok (.iaload, 1) := by decide +kernel
theorem dL_law_274 : decode cL_law 274 = .ok (.aload_n 0, 1) := by decide +kernel
theorem dL_law_275 : decode cL_law 275 = .ok (.iload 5, 2) := by decide +kernel
theorem dL_law_277 : decode cL_law 277 = .ok (.iconst 2, 1) := by decide +kernel
theorem dL_law_278 : decode cL_law 278 = .ok (.iadd, 1) := by decide +kernel
theorem dL_law_279 : decode cL_law 279 = .ok (.iaload, 1) := by decide +kernel
theorem dL_law_280 : decode cL_law 280 = .ok (.aload_n 0, 1) := by decide +kernel
theorem dL_law_281 : decode cL_law 281 = .ok (.iload 5, 2) := by decide +kernel
theorem dL_law_283 : decode cL_law 283 = .ok (.iconst 3, 1) := by decide +kernel
theorem dL_law_284 : decode cL_law 284 = .ok (.iadd, 1) := by decide +kernel
theorem dL_law_285 : decode cL_law 285 = .ok (.iaload, 1) := by decide +kernel
theorem dL_law_286 : decode cL_law 286 = .ok (.aload_n 0, 1) := by decide +kernel
theorem dL_law_287 : decode cL_law 287 = .ok (.iload 5, 2) := by decide +kernel
theorem dL_law_289 : decode cL_law 289 = .ok (.iconst 4, 1) := by decide +kernel
theorem dL_law_290 : decode cL_law 290 = .ok (.iadd, 1) := by decide +kernel
theorem dL_law_291 : decode cL_law 291 = .ok (.iaload, 1) := by decide +kernel
theorem dL_law_292 : decode cL_law 292 = .ok (.invokevirtual 99, 3) := by decide +kernel
theorem dL_law_295 : decode cL_law 295 = .ok (.istore 7, 2) := by decide +kernel
theorem dL_law_297 : decode cL_law 297 = .ok (.aload_n 2, 1) := by decide +kernel
theorem dL_law_298 : decode cL_law 298 = .ok (.invokevirtual 93, 3) := by decide +kernel
theorem dL_law_301 : decode cL_law 301 = .ok (.iload 6, 2) := by decide +kernel
theorem dL_law_303 : decode cL_law 303 = .ok (.if_icmp .eq 5, 3) := by decide +kernel
theorem dL_law_306 : decode cL_law 306 = .ok (.iconst 0, 1) := by decide +kernel
theorem dL_law_307 : decode cL_law 307 = .ok (.ireturn, 1) := by decide +kernel
theorem dL_law_308 : decode cL_law 308 = .ok (.iload 6, 2) := by decide +kernel
theorem dL_law_310 : decode cL_law 310 = .ok (.ifCond .ne 15, 3) := by decide +kernel
theorem dL_law_313 : decode cL_law 313 = .ok (.aload_n 3, 1) := by decide +kernel
theorem dL_law_314 : decode cL_law 314 = .ok (.iconst 0, 1) := by decide +kernel
theorem dL_law_315 : decode cL_law 315 = .ok (.laload, 1) := by decide +kernel
theorem dL_law_316 : decode cL_law 316 = .ok (.iload 7, 2) := by decide +kernel
theorem dL_law_318 : decode cL_law 318 = .ok (.i2l, 1) := by decide +kernel
theorem dL_law_319 : decode cL_law 319 = .ok (.lcmp, 1) := by decide +kernel
theorem dL_law_320 : decode cL_law 320 = .ok (.ifCond .eq 5, 3) := by decide +kernel
theorem dL_law_323 : decode cL_law 323 = .ok (.iconst 0, 1) := by decide +kernel
theorem dL_law_324 : decode cL_law 324 = .ok (.ireturn, 1) := by decide +kernel
theorem dL_law_325 : decode cL_law 325 = .ok (.goto 1180, 3) := by decide +kernel
theorem dL_law_328 : decode cL_law 328 = .ok (.aload_n 1, 1) := by decide +kernel
theorem dL_law_329 : decode cL_law 329 = .ok (.invokevirtual 100, 3) := by decide +kernel
theorem dL_law_332 : decode cL_law 332 = .ok (.aload_n 2, 1) := by decide +kernel
theorem dL_law_333 : decode cL_law 333 = .ok (.invokevirtual 103, 3) := by decide +kernel
theorem dL_law_336 : decode cL_law 336 = .ok (.if_icmp .eq 1169, 3) := by decide +kernel
theorem dL_law_339 : decode cL_law 339 = .ok (.iconst 0, 1) := by decide +kernel
theorem dL_law_340 : decode cL_law 340 = .ok (.ireturn, 1) := by decide +kernel
theorem dL_law_341 : decode cL_law 341 = .ok (.aload_n 1, 1) := by decide +kernel
theorem dL_law_342 : decode cL_law 342 = .ok (.aload_n 0, 1) := by decide +kernel
theorem dL_law_343 : decode cL_law 343 = .ok (.iload 5, 2) := by decide +kernel
theorem dL_law_345 : decode cL_law 345 = .ok (.iconst 1, 1) := by decide +kernel
theorem dL_law_346 : decode cL_law 346 = .ok (.iadd, 1) := by decide +kernel
theorem dL_law_347 : decode cL_law 347 = .ok (.iaload, 1) := by decide +kernel
theorem dL_law_348 : decode cL_law 348 = .ok (.aload_n 3, 1) := by decide +kernel
theorem dL_law_349 : decode cL_law 349 = .ok (.invokestatic 104, 3) := by decide +kernel
theorem dL_law_352 : decode cL_law 352 = .ok (.istore 6, 2) := by decide +kernel
theorem dL_law_354 : decode cL_law 354 = .ok (.aload_n 2, 1) := by decide +kernel
theorem dL_law_355 : decode cL_law 355 = .ok (.aload_n 0, 1) := by decide +kernel
theorem dL_law_356 : decode cL_law 356 = .ok (.iload 5, 2) := by decide +kernel
theorem dL_law_358 : decode cL_law 358 = .ok (.iconst 1, 1) := by decide +kernel
theorem dL_law_359 : decode cL_law 359 = .ok (.iadd, 1) := by decide +kernel
theorem dL_law_360 : decode cL_law 360 = .ok (.iaload, 1) := by decide +kernel
theorem dL_law_361 : decode cL_law 361 = .ok (.invokevirtual 107, 3) := by decide +kernel
theorem dL_law_364 : decode cL_law 364 = .ok (.istore 7, 2) := by decide +kernel
theorem dL_law_366 : decode cL_law 366 = .ok (.aload_n 2, 1) := by decide +kernel
theorem dL_law_367 : decode cL_law 367 = .ok (.invokevirtual 93, 3) := by decide +kernel
theorem dL_law_370 : decode cL_law 370 = .ok (.iload 6, 2) := by decide +kernel
theorem dL_law_372 : decode cL_law 372 = .ok (.if_icmp .eq 5, 3) := by decide +kernel
theorem dL_law_375 : decode cL_law 375 = .ok (.iconst 0, 1) := by decide +kernel
theorem dL_law_376 : decode cL_law 376 = .ok (.ireturn, 1) := by decide +kernel
theorem dL_law_377 : decode cL_law 377 = .ok (.iload 6, 2) := by decide +kernel
theorem dL_law_379 : decode cL_law 379 = .ok (.ifCond .ne 15, 3) := by decide +kernel
theorem dL_law_382 : decode cL_law 382 = .ok (.aload_n 3, 1) := by decide +kernel
theorem dL_law_383 : decode cL_law 383 = .ok (.iconst 0, 1) := by decide +kernel
theorem dL_law_384 : decode cL_law 384 = .ok (.laload, 1) := by decide +kernel
theorem dL_law_385 : decode cL_law 385 = .ok (.iload 7, 2) := by decide +kernel
theorem dL_law_387 : decode cL_law 387 = .ok (.i2l, 1) := by decide +kernel
theorem dL_law_388 : decode cL_law 388 = .ok (.lcmp, 1) := by decide +kernel
theorem dL_law_389 : decode cL_law 389 = .ok (.ifCond .eq 5, 3) := by decide +kernel
theorem dL_law_392 : decode cL_law 392 = .ok (.iconst 0, 1) := by decide +kernel
theorem dL_law_393 : decode cL_law 393 = .ok (.ireturn, 1) := by decide +kernel
theorem dL_law_394 : decode cL_law 394 = .ok (.goto 1111, 3) := by decide +kernel
theorem dL_law_397 : decode cL_law 397 = .ok (.aload_n 1, 1) := by decide +kernel
theorem dL_law_398 : decode cL_law 398 = .ok (.aload_n 0, 1) := by decide +kernel
theorem dL_law_399 : decode cL_law 399 = .ok (.iload 5, 2) := by decide +kernel
theorem dL_law_401 : decode cL_law 401 = .ok (.iconst 1, 1) := by decide +kernel
theorem dL_law_402 : decode cL_law 402 = .ok (.iadd, 1) := by decide +kernel
theorem dL_law_403 : decode cL_law 403 = .ok (.iaload, 1) := by decide +kernel
theorem dL_law_404 : decode cL_law 404 = .ok (.aload_n 3, 1) := by decide +kernel
theorem dL_law_405 : decode cL_law 405 = .ok (.invokestatic 108, 3) := by decide +kernel
theorem dL_law_408 : decode cL_law 408 = .ok (.istore 6, 2) := by decide +kernel
theorem dL_law_410 : decode cL_law 410 = .ok (.aload_n 2, 1) := by decide +kernel
theorem dL_law_411 : decode cL_law 411 = .ok (.aload_n 0, 1) := by decide +kernel
theorem dL_law_412 : decode cL_law 412 = .ok (.iload 5, 2) := by decide +kernel
theorem dL_law_414 : decode cL_law 414 = .ok (.iconst 1, 1) := by decide +kernel
theorem dL_law_415 : decode cL_law 415 = .ok (.iadd, 1) := by decide +kernel
theorem dL_law_416 : decode cL_law 416 = .ok (.iaload, 1) := by decide +kernel
theorem dL_law_417 : decode cL_law 417 = .ok (.invokevirtual 110, 3) := by decide +kernel
theorem dL_law_420 : decode cL_law 420 = .ok (.istore 7, 2) := by decide +kernel
theorem dL_law_422 : decode cL_law 422 = .ok (.aload_n 2, 1) := by decide +kernel
theorem dL_law_423 : decode cL_law 423 = .ok (.invokevirtual 93, 3) := by decide +kernel
theorem dL_law_426 : decode cL_law 426 = .ok (.iload 6, 2) := by decide +kernel
theorem dL_law_428 : decode cL_law 428 = .ok (.if_icmp .eq 5, 3) := by decide +kernel
theorem dL_law_431 : decode cL_law 431 = .ok (.iconst 0, 1) := by decide +kernel
theorem dL_law_432 : decode cL_law 432 = .ok (.ireturn, 1) := by decide +kernel
theorem dL_law_433 : decode cL_law 433 = .ok (.iload 6, 2) := by decide +kernel
theorem dL_law_435 : decode cL_law 435 = .ok (.ifCond .ne 15, 3) := by decide +kernel
theorem dL_law_438 : decode cL_law 438 = .ok (.aload_n 3, 1) := by decide +kernel
theorem dL_law_439 : decode cL_law 439 = .ok (.iconst 0, 1) := by decide +kernel
theorem dL_law_440 : decode cL_law 440 = .ok (.laload, 1) := by decide +kernel
theorem dL_law_441 : decode cL_law 441 = .ok (.iload 7, 2) := by decide +kernel
theorem dL_law_443 : decode cL_law 443 = .ok (.i2l, 1) := by decide +kernel
theorem dL_law_444 : decode cL_law 444 = .ok (.lcmp, 1) := by decide +kernel
theorem dL_law_445 : decode cL_law 445 = .ok (.ifCond .eq 5, 3) := by decide +kernel
theorem dL_law_448 : decode cL_law 448 = .ok (.iconst 0, 1) := by decide +kernel
theorem dL_law_449 : decode cL_law 449 = .ok (.ireturn, 1) := by decide +kernel
theorem dL_law_450 : decode cL_law 450 = .ok (.goto 1055, 3) := by decide +kernel
theorem dL_law_453 : decode cL_law 453 = .ok (.aload_n 1, 1) := by decide +kernel
theorem dL_law_454 : decode cL_law 454 = .ok (.invokevirtual 111, 3) := by decide +kernel
theorem dL_law_457 : decode cL_law 457 = .ok (.aload_n 2, 1) := by decide +kernel
theorem dL_law_458 : decode cL_law 458 = .ok (.invokevirtual 114, 3) := by decide +kernel
theorem dL_law_461 : decode cL_law 461 = .ok (.if_icmp .eq 1044, 3) := by decide +kernel
theorem dL_law_464 : decode cL_law 464 = .ok (.iconst 0, 1) := by decide +kernel
theorem dL_law_465 : decode cL_law 465 = .ok (.ireturn, 1) := by decide +kernel
theorem dL_law_466 : decode cL_law 466 = .ok (.aload_n 1, 1) := by decide +kernel
theorem dL_law_467 : decode cL_law 467 = .ok (.invokevirtual 115, 3) := by decide +kernel
theorem dL_law_470 : decode cL_law 470 = .ok (.aload_n 2, 1) := by decide +kernel
theorem dL_law_471 : decode cL_law 471 = .ok (.invokevirtual 118, 3) := by decide +kernel
theorem dL_law_474 : decode cL_law 474 = .ok (.if_icmp .eq 1031, 3) := by decide +kernel
theorem dL_law_477 : decode cL_law 477 = .ok (.iconst 0, 1) := by decide +kernel
theorem dL_law_478 : decode cL_law 478 = .ok (.ireturn, 1) := by decide +kernel
theorem dL_law_479 : decode cL_law 479 = .ok (.aload_n 1, 1) := by decide +kernel
theorem dL_law_480 : decode cL_law 480 = .ok (.aload_n 0, 1) := by decide +kernel
theorem dL_law_481 : decode cL_law 481 = .ok (.iload 5, 2) := by decide +kernel
theorem dL_law_483 : decode cL_law 483 = .ok (.iconst 1, 1) := by decide +kernel
theorem dL_law_484 : decode cL_law 484 = .ok (.iadd, 1) := by decide +kernel
theorem dL_law_485 : decode cL_law 485 = .ok (.iaload, 1) := by decide +kernel
theorem dL_law_486 : decode cL_law 486 = .ok (.aload_n 0, 1) := by decide +kernel
theorem dL_law_487 : decode cL_law 487 = .ok (.iload 5, 2) := by decide +kernel
theorem dL_law_489 : decode cL_law 489 = .ok (.iconst 2, 1) := by decide +kernel
theorem dL_law_490 : decode cL_law 490 = .ok (.iadd, 1) := by decide +kernel
theorem dL_law_491 : decode cL_law 491 = .ok (.iaload, 1) := by decide +kernel
theorem dL_law_492 : decode cL_law 492 = .ok (.aload_n 0, 1) := by decide +kernel
theorem dL_law_493 : decode cL_law 493 = .ok (.iload 5, 2) := by decide +kernel
theorem dL_law_495 : decode cL_law 495 = .ok (.iconst 3, 1) := by decide +kernel
theorem dL_law_496 : decode cL_law 496 = .ok (.iadd, 1) := by decide +kernel
theorem dL_law_497 : decode cL_law 497 = .ok (.iaload, 1) := by decide +kernel
theorem dL_law_498 : decode cL_law 498 = .ok (.aload_n 0, 1) := by decide +kernel
theorem dL_law_499 : decode cL_law 499 = .ok (.iload 5, 2) := by decide +kernel
theorem dL_law_501 : decode cL_law 501 = .ok (.iconst 4, 1) := by decide +kernel
theorem dL_law_502 : decode cL_law 502 = .ok (.iadd, 1) := by decide +kernel
theorem dL_law_503 : decode cL_law 503 = .ok (.iaload, 1) := by decide +kernel
theorem dL_law_504 : decode cL_law 504 = .ok (.aload_n 3, 1) := by decide +kernel
theorem dL_law_505 : decode cL_law 505 = .ok (.invokestatic 119, 3) := by decide +kernel
theorem dL_law_508 : decode cL_law 508 = .ok (.istore 6, 2) := by decide +kernel
theorem dL_law_510 : decode cL_law 510 = .ok (.aload_n 2, 1) := by decide +kernel
theorem dL_law_511 : decode cL_law 511 = .ok (.aload_n 0, 1) := by decide +kernel
theorem dL_law_512 : decode cL_law 512 = .ok (.iload 5, 2) := by decide +kernel
theorem dL_law_514 : decode cL_law 514 = .ok (.iconst 1, 1) := by decide +kernel
