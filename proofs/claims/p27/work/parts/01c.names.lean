theorem dX0_init_0 : decode cX0_init 0 = .ok (.aload_n 0, 1) := by decide +kernel
theorem dX0_init_1 : decode cX0_init 1 = .ok (.invokespecial 3, 3) := by decide +kernel
theorem dX0_init_4 : decode cX0_init 4 = .ok (.aload_n 0, 1) := by decide +kernel
theorem dX0_init_5 : decode cX0_init 5 = .ok (.bipush 12, 2) := by decide +kernel
theorem dX0_init_7 : decode cX0_init 7 = .ok (.newarray .int, 2) := by decide +kernel
theorem dX0_init_9 : decode cX0_init 9 = .ok (.putfield 9, 3) := by decide +kernel
theorem dX0_init_12 : decode cX0_init 12 = .ok (.aload_n 0, 1) := by decide +kernel
theorem dX0_init_13 : decode cX0_init 13 = .ok (.bipush 12, 2) := by decide +kernel
theorem dX0_init_15 : decode cX0_init 15 = .ok (.newarray .int, 2) := by decide +kernel
theorem dX0_init_17 : decode cX0_init 17 = .ok (.putfield 15, 3) := by decide +kernel
theorem dX0_init_20 : decode cX0_init 20 = .ok (.aload_n 0, 1) := by decide +kernel
theorem dX0_init_21 : decode cX0_init 21 = .ok (.bipush 12, 2) := by decide +kernel
theorem dX0_init_23 : decode cX0_init 23 = .ok (.newarray .int, 2) := by decide +kernel
theorem dX0_init_25 : decode cX0_init 25 = .ok (.putfield 18, 3) := by decide +kernel
theorem dX0_init_28 : decode cX0_init 28 = .ok (.aload_n 0, 1) := by decide +kernel
theorem dX0_init_29 : decode cX0_init 29 = .ok (.bipush 12, 2) := by decide +kernel
theorem dX0_init_31 : decode cX0_init 31 = .ok (.newarray .int, 2) := by decide +kernel
theorem dX0_init_33 : decode cX0_init 33 = .ok (.putfield 21, 3) := by decide +kernel
theorem dX0_init_36 : decode cX0_init 36 = .ok (.return_, 1) := by decide +kernel
theorem dX0_count_0 : decode cX0_count 0 = .ok (.aload_n 0, 1) := by decide +kernel
theorem dX0_count_1 : decode cX0_count 1 = .ok (.getfield 24, 3) := by decide +kernel
theorem dX0_count_4 : decode cX0_count 4 = .ok (.ireturn, 1) := by decide +kernel
theorem dX0_isFull_0 : decode cX0_isFull 0 = .ok (.aload_n 0, 1) := by decide +kernel
theorem dX0_isFull_1 : decode cX0_isFull 1 = .ok (.getfield 24, 3) := by decide +kernel
theorem dX0_isFull_4 : decode cX0_isFull 4 = .ok (.bipush 12, 2) := by decide +kernel
theorem dX0_isFull_6 : decode cX0_isFull 6 = .ok (.if_icmp .lt 7, 3) := by decide +kernel
theorem dX0_isFull_9 : decode cX0_isFull 9 = .ok (.iconst 1, 1) := by decide +kernel
theorem dX0_isFull_10 : decode cX0_isFull 10 = .ok (.goto 4, 3) := by decide +kernel
theorem dX0_isFull_13 : decode cX0_isFull 13 = .ok (.iconst 0, 1) := by decide +kernel
theorem dX0_isFull_14 : decode cX0_isFull 14 = .ok (.ireturn, 1) := by decide +kernel
theorem dX0_contains_0 : decode cX0_contains 0 = .ok (.iload_n 1, 1) := by decide +kernel
theorem dX0_contains_1 : decode cX0_contains 1 = .ok (.iconst 1, 1) := by decide +kernel
theorem dX0_contains_2 : decode cX0_contains 2 = .ok (.if_icmp .lt 15, 3) := by decide +kernel
theorem dX0_contains_5 : decode cX0_contains 5 = .ok (.iload_n 1, 1) := by decide +kernel
theorem dX0_contains_6 : decode cX0_contains 6 = .ok (.aload_n 0, 1) := by decide +kernel
theorem dX0_contains_7 : decode cX0_contains 7 = .ok (.getfield 24, 3) := by decide +kernel
theorem dX0_contains_10 : decode cX0_contains 10 = .ok (.if_icmp .gt 7, 3) := by decide +kernel
theorem dX0_contains_13 : decode cX0_contains 13 = .ok (.iconst 1, 1) := by decide +kernel
theorem dX0_contains_14 : decode cX0_contains 14 = .ok (.goto 4, 3) := by decide +kernel
theorem dX0_contains_17 : decode cX0_contains 17 = .ok (.iconst 0, 1) := by decide +kernel
theorem dX0_contains_18 : decode cX0_contains 18 = .ok (.ireturn, 1) := by decide +kernel
set_option maxRecDepth 20000 in
theorem ggX0_append_X0_put : GoodIn wsX0_append wsX0_put := goodIn_r _ [6, 7, 8, 9, 10, 11, 12, 13, 14] (by decide +kernel) (by decide +kernel)
set_option maxRecDepth 20000 in
theorem gX0_append_X0_put : GoodIn wsX0_append (wsV RX0 28 RX0 yX0_put wsX0_put) := goodIn_app (goodIn_of _ (by decide +kernel)) ggX0_append_X0_put
theorem dX0_append_0 : decode cX0_append 0 = .ok (.aload_n 0, 1) := by decide +kernel
theorem dX0_append_1 : decode cX0_append 1 = .ok (.dup, 1) := by decide +kernel
theorem dX0_append_2 : decode cX0_append 2 = .ok (.getfield 24, 3) := by decide +kernel
theorem dX0_append_5 : decode cX0_append 5 = .ok (.iconst 1, 1) := by decide +kernel
theorem dX0_append_6 : decode cX0_append 6 = .ok (.iadd, 1) := by decide +kernel
theorem dX0_append_7 : decode cX0_append 7 = .ok (.putfield 24, 3) := by decide +kernel
theorem dX0_append_10 : decode cX0_append 10 = .ok (.aload_n 0, 1) := by decide +kernel
theorem dX0_append_11 : decode cX0_append 11 = .ok (.aload_n 0, 1) := by decide +kernel
theorem dX0_append_12 : decode cX0_append 12 = .ok (.getfield 24, 3) := by decide +kernel
theorem dX0_append_15 : decode cX0_append 15 = .ok (.iload_n 1, 1) := by decide +kernel
theorem dX0_append_16 : decode cX0_append 16 = .ok (.iload_n 2, 1) := by decide +kernel
theorem dX0_append_17 : decode cX0_append 17 = .ok (.iload_n 3, 1) := by decide +kernel
theorem dX0_append_18 : decode cX0_append 18 = .ok (.invokevirtual 28, 3) := by decide +kernel
theorem dX0_append_21 : decode cX0_append 21 = .ok (.aload_n 0, 1) := by decide +kernel
theorem dX0_append_22 : decode cX0_append 22 = .ok (.getfield 24, 3) := by decide +kernel
theorem dX0_append_25 : decode cX0_append 25 = .ok (.ireturn, 1) := by decide +kernel
theorem dX0_put_0 : decode cX0_put 0 = .ok (.aload_n 0, 1) := by decide +kernel
theorem dX0_put_1 : decode cX0_put 1 = .ok (.getfield 9, 3) := by decide +kernel
theorem dX0_put_4 : decode cX0_put 4 = .ok (.iload_n 1, 1) := by decide +kernel
theorem dX0_put_5 : decode cX0_put 5 = .ok (.iconst 1, 1) := by decide +kernel
theorem dX0_put_6 : decode cX0_put 6 = .ok (.isub, 1) := by decide +kernel
theorem dX0_put_7 : decode cX0_put 7 = .ok (.iload_n 2, 1) := by decide +kernel
theorem dX0_put_8 : decode cX0_put 8 = .ok (.iastore, 1) := by decide +kernel
theorem dX0_put_9 : decode cX0_put 9 = .ok (.aload_n 0, 1) := by decide +kernel
theorem dX0_put_10 : decode cX0_put 10 = .ok (.getfield 15, 3) := by decide +kernel
theorem dX0_put_13 : decode cX0_put 13 = .ok (.iload_n 1, 1) := by decide +kernel
theorem dX0_put_14 : decode cX0_put 14 = .ok (.iconst 1, 1) := by decide +kernel
theorem dX0_put_15 : decode cX0_put 15 = .ok (.isub, 1) := by decide +kernel
theorem dX0_put_16 : decode cX0_put 16 = .ok (.iload_n 3, 1) := by decide +kernel
theorem dX0_put_17 : decode cX0_put 17 = .ok (.iastore, 1) := by decide +kernel
theorem dX0_put_18 : decode cX0_put 18 = .ok (.aload_n 0, 1) := by decide +kernel
theorem dX0_put_19 : decode cX0_put 19 = .ok (.getfield 18, 3) := by decide +kernel
theorem dX0_put_22 : decode cX0_put 22 = .ok (.iload_n 1, 1) := by decide +kernel
theorem dX0_put_23 : decode cX0_put 23 = .ok (.iconst 1, 1) := by decide +kernel
theorem dX0_put_24 : decode cX0_put 24 = .ok (.isub, 1) := by decide +kernel
theorem dX0_put_25 : decode cX0_put 25 = .ok (.iload 4, 2) := by decide +kernel
theorem dX0_put_27 : decode cX0_put 27 = .ok (.iastore, 1) := by decide +kernel
theorem dX0_put_28 : decode cX0_put 28 = .ok (.return_, 1) := by decide +kernel
theorem dX0_checksumOf_0 : decode cX0_checksumOf 0 = .ok (.aload_n 0, 1) := by decide +kernel
theorem dX0_checksumOf_1 : decode cX0_checksumOf 1 = .ok (.getfield 9, 3) := by decide +kernel
theorem dX0_checksumOf_4 : decode cX0_checksumOf 4 = .ok (.iload_n 1, 1) := by decide +kernel
theorem dX0_checksumOf_5 : decode cX0_checksumOf 5 = .ok (.iconst 1, 1) := by decide +kernel
theorem dX0_checksumOf_6 : decode cX0_checksumOf 6 = .ok (.isub, 1) := by decide +kernel
theorem dX0_checksumOf_7 : decode cX0_checksumOf 7 = .ok (.iaload, 1) := by decide +kernel
theorem dX0_checksumOf_8 : decode cX0_checksumOf 8 = .ok (.bipush 31, 2) := by decide +kernel
theorem dX0_checksumOf_10 : decode cX0_checksumOf 10 = .ok (.imul, 1) := by decide +kernel
theorem dX0_checksumOf_11 : decode cX0_checksumOf 11 = .ok (.aload_n 0, 1) := by decide +kernel
theorem dX0_checksumOf_12 : decode cX0_checksumOf 12 = .ok (.getfield 15, 3) := by decide +kernel
theorem dX0_checksumOf_15 : decode cX0_checksumOf 15 = .ok (.iload_n 1, 1) := by decide +kernel
theorem dX0_checksumOf_16 : decode cX0_checksumOf 16 = .ok (.iconst 1, 1) := by decide +kernel
theorem dX0_checksumOf_17 : decode cX0_checksumOf 17 = .ok (.isub, 1) := by decide +kernel
theorem dX0_checksumOf_18 : decode cX0_checksumOf 18 = .ok (.iaload, 1) := by decide +kernel
theorem dX0_checksumOf_19 : decode cX0_checksumOf 19 = .ok (.iadd, 1) := by decide +kernel
theorem dX0_checksumOf_20 : decode cX0_checksumOf 20 = .ok (.istore_n 2, 1) := by decide +kernel
theorem dX0_checksumOf_21 : decode cX0_checksumOf 21 = .ok (.iload_n 2, 1) := by decide +kernel
theorem dX0_checksumOf_22 : decode cX0_checksumOf 22 = .ok (.sipush 2003, 3) := by decide +kernel
theorem dX0_checksumOf_25 : decode cX0_checksumOf 25 = .ok (.imul, 1) := by decide +kernel
theorem dX0_checksumOf_26 : decode cX0_checksumOf 26 = .ok (.aload_n 0, 1) := by decide +kernel
theorem dX0_checksumOf_27 : decode cX0_checksumOf 27 = .ok (.getfield 18, 3) := by decide +kernel
theorem dX0_checksumOf_30 : decode cX0_checksumOf 30 = .ok (.iload_n 1, 1) := by decide +kernel
theorem dX0_checksumOf_31 : decode cX0_checksumOf 31 = .ok (.iconst 1, 1) := by decide +kernel
theorem dX0_checksumOf_32 : decode cX0_checksumOf 32 = .ok (.isub, 1) := by decide +kernel
theorem dX0_checksumOf_33 : decode cX0_checksumOf 33 = .ok (.iaload, 1) := by decide +kernel
theorem dX0_checksumOf_34 : decode cX0_checksumOf 34 = .ok (.iadd, 1) := by decide +kernel
theorem dX0_checksumOf_35 : decode cX0_checksumOf 35 = .ok (.sipush 1001, 3) := by decide +kernel
theorem dX0_checksumOf_38 : decode cX0_checksumOf 38 = .ok (.iadd, 1) := by decide +kernel
theorem dX0_checksumOf_39 : decode cX0_checksumOf 39 = .ok (.istore_n 3, 1) := by decide +kernel
theorem dX0_checksumOf_40 : decode cX0_checksumOf 40 = .ok (.iload_n 3, 1) := by decide +kernel
theorem dX0_checksumOf_41 : decode cX0_checksumOf 41 = .ok (.bipush 7, 2) := by decide +kernel
theorem dX0_checksumOf_43 : decode cX0_checksumOf 43 = .ok (.imul, 1) := by decide +kernel
theorem dX0_checksumOf_44 : decode cX0_checksumOf 44 = .ok (.iload_n 1, 1) := by decide +kernel
theorem dX0_checksumOf_45 : decode cX0_checksumOf 45 = .ok (.iadd, 1) := by decide +kernel
theorem dX0_checksumOf_46 : decode cX0_checksumOf 46 = .ok (.ldc 32, 2) := by decide +kernel
theorem dX0_checksumOf_48 : decode cX0_checksumOf 48 = .ok (.irem, 1) := by decide +kernel
theorem dX0_checksumOf_49 : decode cX0_checksumOf 49 = .ok (.ireturn, 1) := by decide +kernel
set_option maxRecDepth 20000 in
theorem ggX0_recordChecksum_X0_checksumOf : GoodIn wsX0_recordChecksum wsX0_checksumOf := goodIn_r _ [6, 7, 8, 9, 10, 11, 12, 13, 14, 15] (by decide +kernel) (by decide +kernel)
set_option maxRecDepth 20000 in
theorem gX0_recordChecksum_X0_checksumOf : GoodIn wsX0_recordChecksum (wsV RX0 33 RX0 yX0_checksumOf wsX0_checksumOf) := goodIn_app (goodIn_of _ (by decide +kernel)) ggX0_recordChecksum_X0_checksumOf
theorem dX0_recordChecksum_0 : decode cX0_recordChecksum 0 = .ok (.aload_n 0, 1) := by decide +kernel
theorem dX0_recordChecksum_1 : decode cX0_recordChecksum 1 = .ok (.getfield 21, 3) := by decide +kernel
theorem dX0_recordChecksum_4 : decode cX0_recordChecksum 4 = .ok (.iload_n 1, 1) := by decide +kernel
theorem dX0_recordChecksum_5 : decode cX0_recordChecksum 5 = .ok (.iconst 1, 1) := by decide +kernel
theorem dX0_recordChecksum_6 : decode cX0_recordChecksum 6 = .ok (.isub, 1) := by decide +kernel
theorem dX0_recordChecksum_7 : decode cX0_recordChecksum 7 = .ok (.aload_n 0, 1) := by decide +kernel
theorem dX0_recordChecksum_8 : decode cX0_recordChecksum 8 = .ok (.iload_n 1, 1) := by decide +kernel
theorem dX0_recordChecksum_9 : decode cX0_recordChecksum 9 = .ok (.invokevirtual 33, 3) := by decide +kernel
theorem dX0_recordChecksum_12 : decode cX0_recordChecksum 12 = .ok (.iastore, 1) := by decide +kernel
theorem dX0_recordChecksum_13 : decode cX0_recordChecksum 13 = .ok (.return_, 1) := by decide +kernel
set_option maxRecDepth 20000 in
theorem ggX0_hasDrifted_X0_checksumOf : GoodIn wsX0_hasDrifted wsX0_checksumOf := goodIn_r _ [6, 7, 8, 9, 10, 11, 12, 13, 14, 15] (by decide +kernel) (by decide +kernel)
set_option maxRecDepth 20000 in
theorem gX0_hasDrifted_X0_checksumOf : GoodIn wsX0_hasDrifted (wsV RX0 33 RX0 yX0_checksumOf wsX0_checksumOf) := goodIn_app (goodIn_of _ (by decide +kernel)) ggX0_hasDrifted_X0_checksumOf
theorem dX0_hasDrifted_0 : decode cX0_hasDrifted 0 = .ok (.aload_n 0, 1) := by decide +kernel
theorem dX0_hasDrifted_1 : decode cX0_hasDrifted 1 = .ok (.iload_n 1, 1) := by decide +kernel
theorem dX0_hasDrifted_2 : decode cX0_hasDrifted 2 = .ok (.invokevirtual 33, 3) := by decide +kernel
theorem dX0_hasDrifted_5 : decode cX0_hasDrifted 5 = .ok (.aload_n 0, 1) := by decide +kernel
theorem dX0_hasDrifted_6 : decode cX0_hasDrifted 6 = .ok (.getfield 21, 3) := by decide +kernel
theorem dX0_hasDrifted_9 : decode cX0_hasDrifted 9 = .ok (.iload_n 1, 1) := by decide +kernel
theorem dX0_hasDrifted_10 : decode cX0_hasDrifted 10 = .ok (.iconst 1, 1) := by decide +kernel
theorem dX0_hasDrifted_11 : decode cX0_hasDrifted 11 = .ok (.isub, 1) := by decide +kernel
theorem dX0_hasDrifted_12 : decode cX0_hasDrifted 12 = .ok (.iaload, 1) := by decide +kernel
theorem dX0_hasDrifted_13 : decode cX0_hasDrifted 13 = .ok (.if_icmp .eq 7, 3) := by decide +kernel
theorem dX0_hasDrifted_16 : decode cX0_hasDrifted 16 = .ok (.iconst 1, 1) := by decide +kernel
theorem dX0_hasDrifted_17 : decode cX0_hasDrifted 17 = .ok (.goto 4, 3) := by decide +kernel
theorem dX0_hasDrifted_20 : decode cX0_hasDrifted 20 = .ok (.iconst 0, 1) := by decide +kernel
theorem dX0_hasDrifted_21 : decode cX0_hasDrifted 21 = .ok (.ireturn, 1) := by decide +kernel
set_option maxRecDepth 20000 in
theorem ggX0_firstDrifted_X0_hasDrifted : GoodIn wsX0_firstDrifted wsX0_hasDrifted := goodIn_r _ [5, 6, 7, 8, 9, 4, 10, 11, 12, 13, 14, 15, 16, 17, 18, 19] (by decide +kernel) (by decide +kernel)
set_option maxRecDepth 20000 in
theorem gX0_firstDrifted_X0_hasDrifted : GoodIn wsX0_firstDrifted (wsV RX0 37 RX0 yX0_hasDrifted wsX0_hasDrifted) := goodIn_app (goodIn_of _ (by decide +kernel)) ggX0_firstDrifted_X0_hasDrifted
theorem dX0_firstDrifted_0 : decode cX0_firstDrifted 0 = .ok (.iconst 1, 1) := by decide +kernel
theorem dX0_firstDrifted_1 : decode cX0_firstDrifted 1 = .ok (.istore_n 2, 1) := by decide +kernel
theorem dX0_firstDrifted_2 : decode cX0_firstDrifted 2 = .ok (.iload_n 2, 1) := by decide +kernel
theorem dX0_firstDrifted_3 : decode cX0_firstDrifted 3 = .ok (.iload_n 1, 1) := by decide +kernel
theorem dX0_firstDrifted_4 : decode cX0_firstDrifted 4 = .ok (.if_icmp .gt 19, 3) := by decide +kernel
theorem dX0_firstDrifted_7 : decode cX0_firstDrifted 7 = .ok (.aload_n 0, 1) := by decide +kernel
theorem dX0_firstDrifted_8 : decode cX0_firstDrifted 8 = .ok (.iload_n 2, 1) := by decide +kernel
theorem dX0_firstDrifted_9 : decode cX0_firstDrifted 9 = .ok (.invokevirtual 37, 3) := by decide +kernel
theorem dX0_firstDrifted_12 : decode cX0_firstDrifted 12 = .ok (.ifCond .eq 5, 3) := by decide +kernel
theorem dX0_firstDrifted_15 : decode cX0_firstDrifted 15 = .ok (.iload_n 2, 1) := by decide +kernel
theorem dX0_firstDrifted_16 : decode cX0_firstDrifted 16 = .ok (.ireturn, 1) := by decide +kernel
theorem dX0_firstDrifted_17 : decode cX0_firstDrifted 17 = .ok (.iinc 2 1, 3) := by decide +kernel
theorem dX0_firstDrifted_20 : decode cX0_firstDrifted 20 = .ok (.goto (-18), 3) := by decide +kernel
theorem dX0_firstDrifted_23 : decode cX0_firstDrifted 23 = .ok (.iconst 0, 1) := by decide +kernel
theorem dX0_firstDrifted_24 : decode cX0_firstDrifted 24 = .ok (.ireturn, 1) := by decide +kernel
set_option maxRecDepth 20000 in
theorem ggX0_applyTo_X0_putResult : GoodIn wsX0_applyTo wsX0_putResult := goodIn_r _ [7, 8, 9, 10, 11, 12] (by decide +kernel) (by decide +kernel)
set_option maxRecDepth 20000 in
theorem gX0_applyTo_X0_putResult : GoodIn wsX0_applyTo (va_wsS RX0 41 yX0_putResult wsX0_putResult) := goodIn_app (goodIn_of _ (by decide +kernel)) ggX0_applyTo_X0_putResult
set_option maxRecDepth 20000 in
theorem ggX0_applyTo_X0_exchange : GoodIn wsX0_applyTo wsX0_exchange := goodIn_r _ [15] (by decide +kernel) (by decide +kernel)
set_option maxRecDepth 20000 in
theorem gX0_applyTo_X0_exchange : GoodIn wsX0_applyTo (va_wsS RX0 45 yX0_exchange wsX0_exchange) := goodIn_app (goodIn_of _ (by decide +kernel)) ggX0_applyTo_X0_exchange
theorem dX0_applyTo_0 : decode cX0_applyTo 0 = .ok (.aload_n 0, 1) := by decide +kernel
theorem dX0_applyTo_1 : decode cX0_applyTo 1 = .ok (.getfield 15, 3) := by decide +kernel
theorem dX0_applyTo_4 : decode cX0_applyTo 4 = .ok (.iload_n 2, 1) := by decide +kernel
theorem dX0_applyTo_5 : decode cX0_applyTo 5 = .ok (.iconst 1, 1) := by decide +kernel
theorem dX0_applyTo_6 : decode cX0_applyTo 6 = .ok (.isub, 1) := by decide +kernel
theorem dX0_applyTo_7 : decode cX0_applyTo 7 = .ok (.iaload, 1) := by decide +kernel
theorem dX0_applyTo_8 : decode cX0_applyTo 8 = .ok (.istore_n 3, 1) := by decide +kernel
theorem dX0_applyTo_9 : decode cX0_applyTo 9 = .ok (.aload_n 0, 1) := by decide +kernel
theorem dX0_applyTo_10 : decode cX0_applyTo 10 = .ok (.getfield 18, 3) := by decide +kernel
theorem dX0_applyTo_13 : decode cX0_applyTo 13 = .ok (.iload_n 2, 1) := by decide +kernel
theorem dX0_applyTo_14 : decode cX0_applyTo 14 = .ok (.iconst 1, 1) := by decide +kernel
theorem dX0_applyTo_15 : decode cX0_applyTo 15 = .ok (.isub, 1) := by decide +kernel
theorem dX0_applyTo_16 : decode cX0_applyTo 16 = .ok (.iaload, 1) := by decide +kernel
theorem dX0_applyTo_17 : decode cX0_applyTo 17 = .ok (.istore 4, 2) := by decide +kernel
theorem dX0_applyTo_19 : decode cX0_applyTo 19 = .ok (.aload_n 1, 1) := by decide +kernel
theorem dX0_applyTo_20 : decode cX0_applyTo 20 = .ok (.iload_n 3, 1) := by decide +kernel
theorem dX0_applyTo_21 : decode cX0_applyTo 21 = .ok (.iaload, 1) := by decide +kernel
theorem dX0_applyTo_22 : decode cX0_applyTo 22 = .ok (.i2l, 1) := by decide +kernel
theorem dX0_applyTo_23 : decode cX0_applyTo 23 = .ok (.lstore 5, 2) := by decide +kernel
theorem dX0_applyTo_25 : decode cX0_applyTo 25 = .ok (.aload_n 0, 1) := by decide +kernel
theorem dX0_applyTo_26 : decode cX0_applyTo 26 = .ok (.getfield 9, 3) := by decide +kernel
theorem dX0_applyTo_29 : decode cX0_applyTo 29 = .ok (.iload_n 2, 1) := by decide +kernel
theorem dX0_applyTo_30 : decode cX0_applyTo 30 = .ok (.iconst 1, 1) := by decide +kernel
theorem dX0_applyTo_31 : decode cX0_applyTo 31 = .ok (.isub, 1) := by decide +kernel
theorem dX0_applyTo_32 : decode cX0_applyTo 32 = .ok (.iaload, 1) := by decide +kernel
theorem dX0_applyTo_33 : decode cX0_applyTo 33 = .ok (.lookupswitch 51 #[(0, 27), (1, 39)], 27) := by decide +kernel
theorem dX0_applyTo_60 : decode cX0_applyTo 60 = .ok (.aload_n 1, 1) := by decide +kernel
theorem dX0_applyTo_61 : decode cX0_applyTo 61 = .ok (.iload_n 3, 1) := by decide +kernel
theorem dX0_applyTo_62 : decode cX0_applyTo 62 = .ok (.lload 5, 2) := by decide +kernel
theorem dX0_applyTo_64 : decode cX0_applyTo 64 = .ok (.iload 4, 2) := by decide +kernel
theorem dX0_applyTo_66 : decode cX0_applyTo 66 = .ok (.i2l, 1) := by decide +kernel
theorem dX0_applyTo_67 : decode cX0_applyTo 67 = .ok (.ladd, 1) := by decide +kernel
theorem dX0_applyTo_68 : decode cX0_applyTo 68 = .ok (.invokestatic 41, 3) := by decide +kernel
theorem dX0_applyTo_71 : decode cX0_applyTo 71 = .ok (.ireturn, 1) := by decide +kernel
theorem dX0_applyTo_72 : decode cX0_applyTo 72 = .ok (.aload_n 1, 1) := by decide +kernel
theorem dX0_applyTo_73 : decode cX0_applyTo 73 = .ok (.iload_n 3, 1) := by decide +kernel
theorem dX0_applyTo_74 : decode cX0_applyTo 74 = .ok (.lload 5, 2) := by decide +kernel
theorem dX0_applyTo_76 : decode cX0_applyTo 76 = .ok (.iload 4, 2) := by decide +kernel
theorem dX0_applyTo_78 : decode cX0_applyTo 78 = .ok (.i2l, 1) := by decide +kernel
theorem dX0_applyTo_79 : decode cX0_applyTo 79 = .ok (.lmul, 1) := by decide +kernel
theorem dX0_applyTo_80 : decode cX0_applyTo 80 = .ok (.invokestatic 41, 3) := by decide +kernel
theorem dX0_applyTo_83 : decode cX0_applyTo 83 = .ok (.ireturn, 1) := by decide +kernel
theorem dX0_applyTo_84 : decode cX0_applyTo 84 = .ok (.aload_n 1, 1) := by decide +kernel
theorem dX0_applyTo_85 : decode cX0_applyTo 85 = .ok (.iload_n 3, 1) := by decide +kernel
theorem dX0_applyTo_86 : decode cX0_applyTo 86 = .ok (.iload 4, 2) := by decide +kernel
theorem dX0_applyTo_88 : decode cX0_applyTo 88 = .ok (.invokestatic 45, 3) := by decide +kernel
theorem dX0_applyTo_91 : decode cX0_applyTo 91 = .ok (.ireturn, 1) := by decide +kernel
set_option maxRecDepth 20000 in
theorem ggX0_undoOn_X0_putResult : GoodIn wsX0_undoOn wsX0_putResult := goodIn_r _ [7, 8, 9, 10, 11, 12] (by decide +kernel) (by decide +kernel)
set_option maxRecDepth 20000 in
theorem gX0_undoOn_X0_putResult : GoodIn wsX0_undoOn (va_wsS RX0 41 yX0_putResult wsX0_putResult) := goodIn_app (goodIn_of _ (by decide +kernel)) ggX0_undoOn_X0_putResult
set_option maxRecDepth 20000 in
theorem ggX0_undoOn_X0_exchange : GoodIn wsX0_undoOn wsX0_exchange := goodIn_r _ [15] (by decide +kernel) (by decide +kernel)
set_option maxRecDepth 20000 in
theorem gX0_undoOn_X0_exchange : GoodIn wsX0_undoOn (va_wsS RX0 45 yX0_exchange wsX0_exchange) := goodIn_app (goodIn_of _ (by decide +kernel)) ggX0_undoOn_X0_exchange
theorem dX0_undoOn_0 : decode cX0_undoOn 0 = .ok (.aload_n 0, 1) := by decide +kernel
theorem dX0_undoOn_1 : decode cX0_undoOn 1 = .ok (.getfield 15, 3) := by decide +kernel
theorem dX0_undoOn_4 : decode cX0_undoOn 4 = .ok (.iload_n 2, 1) := by decide +kernel
theorem dX0_undoOn_5 : decode cX0_undoOn 5 = .ok (.iconst 1, 1) := by decide +kernel
theorem dX0_undoOn_6 : decode cX0_undoOn 6 = .ok (.isub, 1) := by decide +kernel
theorem dX0_undoOn_7 : decode cX0_undoOn 7 = .ok (.iaload, 1) := by decide +kernel
theorem dX0_undoOn_8 : decode cX0_undoOn 8 = .ok (.istore_n 3, 1) := by decide +kernel
theorem dX0_undoOn_9 : decode cX0_undoOn 9 = .ok (.aload_n 0, 1) := by decide +kernel
theorem dX0_undoOn_10 : decode cX0_undoOn 10 = .ok (.getfield 18, 3) := by decide +kernel
theorem dX0_undoOn_13 : decode cX0_undoOn 13 = .ok (.iload_n 2, 1) := by decide +kernel
theorem dX0_undoOn_14 : decode cX0_undoOn 14 = .ok (.iconst 1, 1) := by decide +kernel
theorem dX0_undoOn_15 : decode cX0_undoOn 15 = .ok (.isub, 1) := by decide +kernel
theorem dX0_undoOn_16 : decode cX0_undoOn 16 = .ok (.iaload, 1) := by decide +kernel
theorem dX0_undoOn_17 : decode cX0_undoOn 17 = .ok (.istore 4, 2) := by decide +kernel
theorem dX0_undoOn_19 : decode cX0_undoOn 19 = .ok (.aload_n 1, 1) := by decide +kernel
theorem dX0_undoOn_20 : decode cX0_undoOn 20 = .ok (.iload_n 3, 1) := by decide +kernel
theorem dX0_undoOn_21 : decode cX0_undoOn 21 = .ok (.iaload, 1) := by decide +kernel
theorem dX0_undoOn_22 : decode cX0_undoOn 22 = .ok (.i2l, 1) := by decide +kernel
theorem dX0_undoOn_23 : decode cX0_undoOn 23 = .ok (.lstore 5, 2) := by decide +kernel
theorem dX0_undoOn_25 : decode cX0_undoOn 25 = .ok (.aload_n 0, 1) := by decide +kernel
theorem dX0_undoOn_26 : decode cX0_undoOn 26 = .ok (.getfield 9, 3) := by decide +kernel
theorem dX0_undoOn_29 : decode cX0_undoOn 29 = .ok (.iload_n 2, 1) := by decide +kernel
theorem dX0_undoOn_30 : decode cX0_undoOn 30 = .ok (.iconst 1, 1) := by decide +kernel
theorem dX0_undoOn_31 : decode cX0_undoOn 31 = .ok (.isub, 1) := by decide +kernel
theorem dX0_undoOn_32 : decode cX0_undoOn 32 = .ok (.iaload, 1) := by decide +kernel
theorem dX0_undoOn_33 : decode cX0_undoOn 33 = .ok (.lookupswitch 75 #[(0, 27), (1, 39)], 27) := by decide +kernel
theorem dX0_undoOn_60 : decode cX0_undoOn 60 = .ok (.aload_n 1, 1) := by decide +kernel
theorem dX0_undoOn_61 : decode cX0_undoOn 61 = .ok (.iload_n 3, 1) := by decide +kernel
theorem dX0_undoOn_62 : decode cX0_undoOn 62 = .ok (.lload 5, 2) := by decide +kernel
theorem dX0_undoOn_64 : decode cX0_undoOn 64 = .ok (.iload 4, 2) := by decide +kernel
theorem dX0_undoOn_66 : decode cX0_undoOn 66 = .ok (.i2l, 1) := by decide +kernel
theorem dX0_undoOn_67 : decode cX0_undoOn 67 = .ok (.lsub, 1) := by decide +kernel
theorem dX0_undoOn_68 : decode cX0_undoOn 68 = .ok (.invokestatic 41, 3) := by decide +kernel
theorem dX0_undoOn_71 : decode cX0_undoOn 71 = .ok (.ireturn, 1) := by decide +kernel
theorem dX0_undoOn_72 : decode cX0_undoOn 72 = .ok (.iload 4, 2) := by decide +kernel
theorem dX0_undoOn_74 : decode cX0_undoOn 74 = .ok (.ifCond .eq 32, 3) := by decide +kernel
theorem dX0_undoOn_77 : decode cX0_undoOn 77 = .ok (.lload 5, 2) := by decide +kernel
theorem dX0_undoOn_79 : decode cX0_undoOn 79 = .ok (.iload 4, 2) := by decide +kernel
theorem dX0_undoOn_81 : decode cX0_undoOn 81 = .ok (.i2l, 1) := by decide +kernel
theorem dX0_undoOn_82 : decode cX0_undoOn 82 = .ok (.lrem, 1) := by decide +kernel
theorem dX0_undoOn_83 : decode cX0_undoOn 83 = .ok (.lconst 0, 1) := by decide +kernel
theorem dX0_undoOn_84 : decode cX0_undoOn 84 = .ok (.lcmp, 1) := by decide +kernel
theorem dX0_undoOn_85 : decode cX0_undoOn 85 = .ok (.ifCond .ne 21, 3) := by decide +kernel
theorem dX0_undoOn_88 : decode cX0_undoOn 88 = .ok (.aload_n 1, 1) := by decide +kernel
theorem dX0_undoOn_89 : decode cX0_undoOn 89 = .ok (.iload_n 3, 1) := by decide +kernel
theorem dX0_undoOn_90 : decode cX0_undoOn 90 = .ok (.lload 5, 2) := by decide +kernel
theorem dX0_undoOn_92 : decode cX0_undoOn 92 = .ok (.iload 4, 2) := by decide +kernel
theorem dX0_undoOn_94 : decode cX0_undoOn 94 = .ok (.i2l, 1) := by decide +kernel
theorem dX0_undoOn_95 : decode cX0_undoOn 95 = .ok (.ldiv, 1) := by decide +kernel
theorem dX0_undoOn_96 : decode cX0_undoOn 96 = .ok (.invokestatic 41, 3) := by decide +kernel
theorem dX0_undoOn_99 : decode cX0_undoOn 99 = .ok (.ifCond .eq 7, 3) := by decide +kernel
theorem dX0_undoOn_102 : decode cX0_undoOn 102 = .ok (.iconst 1, 1) := by decide +kernel
theorem dX0_undoOn_103 : decode cX0_undoOn 103 = .ok (.goto 4, 3) := by decide +kernel
theorem dX0_undoOn_106 : decode cX0_undoOn 106 = .ok (.iconst 0, 1) := by decide +kernel
theorem dX0_undoOn_107 : decode cX0_undoOn 107 = .ok (.ireturn, 1) := by decide +kernel
theorem dX0_undoOn_108 : decode cX0_undoOn 108 = .ok (.aload_n 1, 1) := by decide +kernel
theorem dX0_undoOn_109 : decode cX0_undoOn 109 = .ok (.iload_n 3, 1) := by decide +kernel
theorem dX0_undoOn_110 : decode cX0_undoOn 110 = .ok (.iload 4, 2) := by decide +kernel
theorem dX0_undoOn_112 : decode cX0_undoOn 112 = .ok (.invokestatic 45, 3) := by decide +kernel
theorem dX0_undoOn_115 : decode cX0_undoOn 115 = .ok (.ireturn, 1) := by decide +kernel
set_option maxRecDepth 20000 in
theorem ggX0_putResult_X3_isTableValue : GoodIn wsX0_putResult wsX3_isTableValue := goodIn_r _ [3, 4, 5] (by decide +kernel) (by decide +kernel)
set_option maxRecDepth 20000 in
theorem gX0_putResult_X3_isTableValue_n49 : GoodIn wsX0_putResult (wsX3_isTableValue) := ggX0_putResult_X3_isTableValue
theorem dX0_putResult_0 : decode cX0_putResult 0 = .ok (.lload_n 2, 1) := by decide +kernel
theorem dX0_putResult_1 : decode cX0_putResult 1 = .ok (.invokestatic 49, 3) := by decide +kernel
theorem dX0_putResult_4 : decode cX0_putResult 4 = .ok (.ifCond .ne 5, 3) := by decide +kernel
theorem dX0_putResult_7 : decode cX0_putResult 7 = .ok (.iconst 0, 1) := by decide +kernel
theorem dX0_putResult_8 : decode cX0_putResult 8 = .ok (.ireturn, 1) := by decide +kernel
theorem dX0_putResult_9 : decode cX0_putResult 9 = .ok (.aload_n 0, 1) := by decide +kernel
theorem dX0_putResult_10 : decode cX0_putResult 10 = .ok (.iload_n 1, 1) := by decide +kernel
theorem dX0_putResult_11 : decode cX0_putResult 11 = .ok (.lload_n 2, 1) := by decide +kernel
theorem dX0_putResult_12 : decode cX0_putResult 12 = .ok (.l2i, 1) := by decide +kernel
theorem dX0_putResult_13 : decode cX0_putResult 13 = .ok (.iastore, 1) := by decide +kernel
theorem dX0_putResult_14 : decode cX0_putResult 14 = .ok (.iconst 1, 1) := by decide +kernel
theorem dX0_putResult_15 : decode cX0_putResult 15 = .ok (.ireturn, 1) := by decide +kernel
theorem dX0_exchange_0 : decode cX0_exchange 0 = .ok (.aload_n 0, 1) := by decide +kernel
theorem dX0_exchange_1 : decode cX0_exchange 1 = .ok (.iload_n 1, 1) := by decide +kernel
theorem dX0_exchange_2 : decode cX0_exchange 2 = .ok (.iaload, 1) := by decide +kernel
theorem dX0_exchange_3 : decode cX0_exchange 3 = .ok (.istore_n 3, 1) := by decide +kernel
theorem dX0_exchange_4 : decode cX0_exchange 4 = .ok (.aload_n 0, 1) := by decide +kernel
theorem dX0_exchange_5 : decode cX0_exchange 5 = .ok (.iload_n 1, 1) := by decide +kernel
theorem dX0_exchange_6 : decode cX0_exchange 6 = .ok (.aload_n 0, 1) := by decide +kernel
theorem dX0_exchange_7 : decode cX0_exchange 7 = .ok (.iload_n 2, 1) := by decide +kernel
theorem dX0_exchange_8 : decode cX0_exchange 8 = .ok (.iaload, 1) := by decide +kernel
theorem dX0_exchange_9 : decode cX0_exchange 9 = .ok (.iastore, 1) := by decide +kernel
theorem dX0_exchange_10 : decode cX0_exchange 10 = .ok (.aload_n 0, 1) := by decide +kernel
theorem dX0_exchange_11 : decode cX0_exchange 11 = .ok (.iload_n 2, 1) := by decide +kernel
theorem dX0_exchange_12 : decode cX0_exchange 12 = .ok (.iload_n 3, 1) := by decide +kernel
theorem dX0_exchange_13 : decode cX0_exchange 13 = .ok (.iastore, 1) := by decide +kernel
theorem dX0_exchange_14 : decode cX0_exchange 14 = .ok (.iconst 1, 1) := by decide +kernel
theorem dX0_exchange_15 : decode cX0_exchange 15 = .ok (.ireturn, 1) := by decide +kernel
theorem dX1_init_0 : decode cX1_init 0 = .ok (.aload_n 0, 1) := by decide +kernel
theorem dX1_init_1 : decode cX1_init 1 = .ok (.invokespecial 3, 3) := by decide +kernel
theorem dX1_init_4 : decode cX1_init 4 = .ok (.aload_n 0, 1) := by decide +kernel
theorem dX1_init_5 : decode cX1_init 5 = .ok (.iconst 4, 1) := by decide +kernel
theorem dX1_init_6 : decode cX1_init 6 = .ok (.newarray .boolean, 2) := by decide +kernel
theorem dX1_init_8 : decode cX1_init 8 = .ok (.putfield 9, 3) := by decide +kernel
theorem dX1_init_11 : decode cX1_init 11 = .ok (.aload_n 0, 1) := by decide +kernel
theorem dX1_init_12 : decode cX1_init 12 = .ok (.iconst (-1), 1) := by decide +kernel
theorem dX1_init_13 : decode cX1_init 13 = .ok (.putfield 15, 3) := by decide +kernel
theorem dX1_init_16 : decode cX1_init 16 = .ok (.return_, 1) := by decide +kernel
theorem dX1_owner_0 : decode cX1_owner 0 = .ok (.aload_n 0, 1) := by decide +kernel
theorem dX1_owner_1 : decode cX1_owner 1 = .ok (.getfield 19, 3) := by decide +kernel
theorem dX1_owner_4 : decode cX1_owner 4 = .ok (.aload_n 0, 1) := by decide +kernel
theorem dX1_owner_5 : decode cX1_owner 5 = .ok (.getfield 22, 3) := by decide +kernel
theorem dX1_owner_8 : decode cX1_owner 8 = .ok (.if_icmp .ge 10, 3) := by decide +kernel
theorem dX1_owner_11 : decode cX1_owner 11 = .ok (.aload_n 0, 1) := by decide +kernel
theorem dX1_owner_12 : decode cX1_owner 12 = .ok (.getfield 15, 3) := by decide +kernel
theorem dX1_owner_15 : decode cX1_owner 15 = .ok (.goto 4, 3) := by decide +kernel
theorem dX1_owner_18 : decode cX1_owner 18 = .ok (.iconst (-1), 1) := by decide +kernel
theorem dX1_owner_19 : decode cX1_owner 19 = .ok (.ireturn, 1) := by decide +kernel
theorem dX1_grant_0 : decode cX1_grant 0 = .ok (.aload_n 0, 1) := by decide +kernel
theorem dX1_grant_1 : decode cX1_grant 1 = .ok (.iload_n 1, 1) := by decide +kernel
theorem dX1_grant_2 : decode cX1_grant 2 = .ok (.putfield 15, 3) := by decide +kernel
theorem dX1_grant_5 : decode cX1_grant 5 = .ok (.aload_n 0, 1) := by decide +kernel
theorem dX1_grant_6 : decode cX1_grant 6 = .ok (.aload_n 0, 1) := by decide +kernel
theorem dX1_grant_7 : decode cX1_grant 7 = .ok (.getfield 19, 3) := by decide +kernel
theorem dX1_grant_10 : decode cX1_grant 10 = .ok (.iload_n 2, 1) := by decide +kernel
theorem dX1_grant_11 : decode cX1_grant 11 = .ok (.iadd, 1) := by decide +kernel
theorem dX1_grant_12 : decode cX1_grant 12 = .ok (.putfield 22, 3) := by decide +kernel
theorem dX1_grant_15 : decode cX1_grant 15 = .ok (.aload_n 0, 1) := by decide +kernel
theorem dX1_grant_16 : decode cX1_grant 16 = .ok (.getfield 22, 3) := by decide +kernel
theorem dX1_grant_19 : decode cX1_grant 19 = .ok (.ireturn, 1) := by decide +kernel
theorem dX1_release_0 : decode cX1_release 0 = .ok (.aload_n 0, 1) := by decide +kernel
theorem dX1_release_1 : decode cX1_release 1 = .ok (.iconst (-1), 1) := by decide +kernel
theorem dX1_release_2 : decode cX1_release 2 = .ok (.putfield 15, 3) := by decide +kernel
theorem dX1_release_5 : decode cX1_release 5 = .ok (.return_, 1) := by decide +kernel
theorem dX1_advance_0 : decode cX1_advance 0 = .ok (.aload_n 0, 1) := by decide +kernel
theorem dX1_advance_1 : decode cX1_advance 1 = .ok (.dup, 1) := by decide +kernel
theorem dX1_advance_2 : decode cX1_advance 2 = .ok (.getfield 19, 3) := by decide +kernel
theorem dX1_advance_5 : decode cX1_advance 5 = .ok (.iload_n 1, 1) := by decide +kernel
theorem dX1_advance_6 : decode cX1_advance 6 = .ok (.iadd, 1) := by decide +kernel
theorem dX1_advance_7 : decode cX1_advance 7 = .ok (.putfield 19, 3) := by decide +kernel
theorem dX1_advance_10 : decode cX1_advance 10 = .ok (.aload_n 0, 1) := by decide +kernel
theorem dX1_advance_11 : decode cX1_advance 11 = .ok (.getfield 19, 3) := by decide +kernel
theorem dX1_advance_14 : decode cX1_advance 14 = .ok (.ireturn, 1) := by decide +kernel
theorem dX1_hasCrashed_0 : decode cX1_hasCrashed 0 = .ok (.aload_n 0, 1) := by decide +kernel
theorem dX1_hasCrashed_1 : decode cX1_hasCrashed 1 = .ok (.getfield 9, 3) := by decide +kernel
theorem dX1_hasCrashed_4 : decode cX1_hasCrashed 4 = .ok (.iload_n 1, 1) := by decide +kernel
theorem dX1_hasCrashed_5 : decode cX1_hasCrashed 5 = .ok (.baload, 1) := by decide +kernel
theorem dX1_hasCrashed_6 : decode cX1_hasCrashed 6 = .ok (.ireturn, 1) := by decide +kernel
theorem dX1_setCrashed_0 : decode cX1_setCrashed 0 = .ok (.aload_n 0, 1) := by decide +kernel
theorem dX1_setCrashed_1 : decode cX1_setCrashed 1 = .ok (.getfield 9, 3) := by decide +kernel
theorem dX1_setCrashed_4 : decode cX1_setCrashed 4 = .ok (.iload_n 1, 1) := by decide +kernel
theorem dX1_setCrashed_5 : decode cX1_setCrashed 5 = .ok (.iload_n 2, 1) := by decide +kernel
theorem dX1_setCrashed_6 : decode cX1_setCrashed 6 = .ok (.bastore, 1) := by decide +kernel
theorem dX1_setCrashed_7 : decode cX1_setCrashed 7 = .ok (.return_, 1) := by decide +kernel
theorem dX2_init_0 : decode cX2_init 0 = .ok (.aload_n 0, 1) := by decide +kernel
theorem dX2_init_1 : decode cX2_init 1 = .ok (.invokespecial 3, 3) := by decide +kernel
theorem dX2_init_4 : decode cX2_init 4 = .ok (.aload_n 0, 1) := by decide +kernel
theorem dX2_init_5 : decode cX2_init 5 = .ok (.bipush 120, 2) := by decide +kernel
theorem dX2_init_7 : decode cX2_init 7 = .ok (.newarray .int, 2) := by decide +kernel
theorem dX2_init_9 : decode cX2_init 9 = .ok (.putfield 9, 3) := by decide +kernel
theorem dX2_init_12 : decode cX2_init 12 = .ok (.aload_n 0, 1) := by decide +kernel
theorem dX2_init_13 : decode cX2_init 13 = .ok (.bipush 40, 2) := by decide +kernel
theorem dX2_init_15 : decode cX2_init 15 = .ok (.newarray .int, 2) := by decide +kernel
theorem dX2_init_17 : decode cX2_init 17 = .ok (.putfield 15, 3) := by decide +kernel
theorem dX2_init_20 : decode cX2_init 20 = .ok (.iconst 0, 1) := by decide +kernel
theorem dX2_init_21 : decode cX2_init 21 = .ok (.istore_n 1, 1) := by decide +kernel
theorem dX2_init_22 : decode cX2_init 22 = .ok (.iload_n 1, 1) := by decide +kernel
theorem dX2_init_23 : decode cX2_init 23 = .ok (.bipush 40, 2) := by decide +kernel
theorem dX2_init_25 : decode cX2_init 25 = .ok (.if_icmp .ge 16, 3) := by decide +kernel
theorem dX2_init_28 : decode cX2_init 28 = .ok (.aload_n 0, 1) := by decide +kernel
theorem dX2_init_29 : decode cX2_init 29 = .ok (.getfield 15, 3) := by decide +kernel
theorem dX2_init_32 : decode cX2_init 32 = .ok (.iload_n 1, 1) := by decide +kernel
theorem dX2_init_33 : decode cX2_init 33 = .ok (.iconst (-1), 1) := by decide +kernel
theorem dX2_init_34 : decode cX2_init 34 = .ok (.iastore, 1) := by decide +kernel
theorem dX2_init_35 : decode cX2_init 35 = .ok (.iinc 1 1, 3) := by decide +kernel
theorem dX2_init_38 : decode cX2_init 38 = .ok (.goto (-16), 3) := by decide +kernel
theorem dX2_init_41 : decode cX2_init 41 = .ok (.return_, 1) := by decide +kernel
theorem dX2_isPresent_0 : decode cX2_isPresent 0 = .ok (.aload_n 0, 1) := by decide +kernel
theorem dX2_isPresent_1 : decode cX2_isPresent 1 = .ok (.getfield 15, 3) := by decide +kernel
theorem dX2_isPresent_4 : decode cX2_isPresent 4 = .ok (.iload_n 1, 1) := by decide +kernel
theorem dX2_isPresent_5 : decode cX2_isPresent 5 = .ok (.iaload, 1) := by decide +kernel
theorem dX2_isPresent_6 : decode cX2_isPresent 6 = .ok (.iconst (-1), 1) := by decide +kernel
theorem dX2_isPresent_7 : decode cX2_isPresent 7 = .ok (.if_icmp .eq 7, 3) := by decide +kernel
theorem dX2_isPresent_10 : decode cX2_isPresent 10 = .ok (.iconst 1, 1) := by decide +kernel
theorem dX2_isPresent_11 : decode cX2_isPresent 11 = .ok (.goto 4, 3) := by decide +kernel
theorem dX2_isPresent_14 : decode cX2_isPresent 14 = .ok (.iconst 0, 1) := by decide +kernel
theorem dX2_isPresent_15 : decode cX2_isPresent 15 = .ok (.ireturn, 1) := by decide +kernel
theorem dX2_versionOf_0 : decode cX2_versionOf 0 = .ok (.aload_n 0, 1) := by decide +kernel
theorem dX2_versionOf_1 : decode cX2_versionOf 1 = .ok (.getfield 15, 3) := by decide +kernel
theorem dX2_versionOf_4 : decode cX2_versionOf 4 = .ok (.iload_n 1, 1) := by decide +kernel
theorem dX2_versionOf_5 : decode cX2_versionOf 5 = .ok (.iaload, 1) := by decide +kernel
theorem dX2_versionOf_6 : decode cX2_versionOf 6 = .ok (.ireturn, 1) := by decide +kernel
theorem dX2_setVersion_0 : decode cX2_setVersion 0 = .ok (.aload_n 0, 1) := by decide +kernel
theorem dX2_setVersion_1 : decode cX2_setVersion 1 = .ok (.getfield 15, 3) := by decide +kernel
theorem dX2_setVersion_4 : decode cX2_setVersion 4 = .ok (.iload_n 1, 1) := by decide +kernel
theorem dX2_setVersion_5 : decode cX2_setVersion 5 = .ok (.iload_n 2, 1) := by decide +kernel
theorem dX2_setVersion_6 : decode cX2_setVersion 6 = .ok (.iastore, 1) := by decide +kernel
theorem dX2_setVersion_7 : decode cX2_setVersion 7 = .ok (.return_, 1) := by decide +kernel
theorem dX2_cell_0 : decode cX2_cell 0 = .ok (.aload_n 0, 1) := by decide +kernel
theorem dX2_cell_1 : decode cX2_cell 1 = .ok (.getfield 9, 3) := by decide +kernel
theorem dX2_cell_4 : decode cX2_cell 4 = .ok (.iload_n 1, 1) := by decide +kernel
theorem dX2_cell_5 : decode cX2_cell 5 = .ok (.iconst 3, 1) := by decide +kernel
theorem dX2_cell_6 : decode cX2_cell 6 = .ok (.imul, 1) := by decide +kernel
theorem dX2_cell_7 : decode cX2_cell 7 = .ok (.iload_n 2, 1) := by decide +kernel
theorem dX2_cell_8 : decode cX2_cell 8 = .ok (.iadd, 1) := by decide +kernel
theorem dX2_cell_9 : decode cX2_cell 9 = .ok (.iaload, 1) := by decide +kernel
theorem dX2_cell_10 : decode cX2_cell 10 = .ok (.ireturn, 1) := by decide +kernel
theorem dX2_setCell_0 : decode cX2_setCell 0 = .ok (.aload_n 0, 1) := by decide +kernel
theorem dX2_setCell_1 : decode cX2_setCell 1 = .ok (.getfield 9, 3) := by decide +kernel
theorem dX2_setCell_4 : decode cX2_setCell 4 = .ok (.iload_n 1, 1) := by decide +kernel
theorem dX2_setCell_5 : decode cX2_setCell 5 = .ok (.iconst 3, 1) := by decide +kernel
theorem dX2_setCell_6 : decode cX2_setCell 6 = .ok (.imul, 1) := by decide +kernel
theorem dX2_setCell_7 : decode cX2_setCell 7 = .ok (.iload_n 2, 1) := by decide +kernel
theorem dX2_setCell_8 : decode cX2_setCell 8 = .ok (.iadd, 1) := by decide +kernel
theorem dX2_setCell_9 : decode cX2_setCell 9 = .ok (.iload_n 3, 1) := by decide +kernel
theorem dX2_setCell_10 : decode cX2_setCell 10 = .ok (.iastore, 1) := by decide +kernel
theorem dX2_setCell_11 : decode cX2_setCell 11 = .ok (.return_, 1) := by decide +kernel
set_option maxRecDepth 20000 in
theorem ggX2_copyRow_X2_cell : GoodIn wsX2_copyRow wsX2_cell := goodIn_r _ [5, 6, 7, 8] (by decide +kernel) (by decide +kernel)
set_option maxRecDepth 20000 in
theorem gX2_copyRow_X2_cell : GoodIn wsX2_copyRow (wsV RX2 18 RX2 yX2_cell wsX2_cell) := goodIn_app (goodIn_of _ (by decide +kernel)) ggX2_copyRow_X2_cell
theorem dX2_copyRow_0 : decode cX2_copyRow 0 = .ok (.iconst 0, 1) := by decide +kernel
theorem dX2_copyRow_1 : decode cX2_copyRow 1 = .ok (.istore_n 3, 1) := by decide +kernel
theorem dX2_copyRow_2 : decode cX2_copyRow 2 = .ok (.iload_n 3, 1) := by decide +kernel
theorem dX2_copyRow_3 : decode cX2_copyRow 3 = .ok (.iconst 3, 1) := by decide +kernel
theorem dX2_copyRow_4 : decode cX2_copyRow 4 = .ok (.if_icmp .ge 18, 3) := by decide +kernel
theorem dX2_copyRow_7 : decode cX2_copyRow 7 = .ok (.aload_n 2, 1) := by decide +kernel
theorem dX2_copyRow_8 : decode cX2_copyRow 8 = .ok (.iload_n 3, 1) := by decide +kernel
theorem dX2_copyRow_9 : decode cX2_copyRow 9 = .ok (.aload_n 0, 1) := by decide +kernel
theorem dX2_copyRow_10 : decode cX2_copyRow 10 = .ok (.iload_n 1, 1) := by decide +kernel
theorem dX2_copyRow_11 : decode cX2_copyRow 11 = .ok (.iload_n 3, 1) := by decide +kernel
theorem dX2_copyRow_12 : decode cX2_copyRow 12 = .ok (.invokevirtual 18, 3) := by decide +kernel
theorem dX2_copyRow_15 : decode cX2_copyRow 15 = .ok (.iastore, 1) := by decide +kernel
theorem dX2_copyRow_16 : decode cX2_copyRow 16 = .ok (.iinc 3 1, 3) := by decide +kernel
theorem dX2_copyRow_19 : decode cX2_copyRow 19 = .ok (.goto (-17), 3) := by decide +kernel
theorem dX2_copyRow_22 : decode cX2_copyRow 22 = .ok (.return_, 1) := by decide +kernel
set_option maxRecDepth 20000 in
theorem ggX2_storeRow_X2_setCell : GoodIn wsX2_storeRow wsX2_setCell := goodIn_r _ [5, 6, 7, 8] (by decide +kernel) (by decide +kernel)
set_option maxRecDepth 20000 in
theorem gX2_storeRow_X2_setCell : GoodIn wsX2_storeRow (wsV RX2 22 RX2 yX2_setCell wsX2_setCell) := goodIn_app (goodIn_of _ (by decide +kernel)) ggX2_storeRow_X2_setCell
theorem dX2_storeRow_0 : decode cX2_storeRow 0 = .ok (.iconst 0, 1) := by decide +kernel
theorem dX2_storeRow_1 : decode cX2_storeRow 1 = .ok (.istore_n 3, 1) := by decide +kernel
theorem dX2_storeRow_2 : decode cX2_storeRow 2 = .ok (.iload_n 3, 1) := by decide +kernel
theorem dX2_storeRow_3 : decode cX2_storeRow 3 = .ok (.iconst 3, 1) := by decide +kernel
theorem dX2_storeRow_4 : decode cX2_storeRow 4 = .ok (.if_icmp .ge 18, 3) := by decide +kernel
theorem dX2_storeRow_7 : decode cX2_storeRow 7 = .ok (.aload_n 0, 1) := by decide +kernel
theorem dX2_storeRow_8 : decode cX2_storeRow 8 = .ok (.iload_n 1, 1) := by decide +kernel
theorem dX2_storeRow_9 : decode cX2_storeRow 9 = .ok (.iload_n 3, 1) := by decide +kernel
theorem dX2_storeRow_10 : decode cX2_storeRow 10 = .ok (.aload_n 2, 1) := by decide +kernel
theorem dX2_storeRow_11 : decode cX2_storeRow 11 = .ok (.iload_n 3, 1) := by decide +kernel
theorem dX2_storeRow_12 : decode cX2_storeRow 12 = .ok (.iaload, 1) := by decide +kernel
theorem dX2_storeRow_13 : decode cX2_storeRow 13 = .ok (.invokevirtual 22, 3) := by decide +kernel
theorem dX2_storeRow_16 : decode cX2_storeRow 16 = .ok (.iinc 3 1, 3) := by decide +kernel
theorem dX2_storeRow_19 : decode cX2_storeRow 19 = .ok (.goto (-17), 3) := by decide +kernel
theorem dX2_storeRow_22 : decode cX2_storeRow 22 = .ok (.return_, 1) := by decide +kernel
theorem dX2_countWithVersion_0 : decode cX2_countWithVersion 0 = .ok (.iconst 0, 1) := by decide +kernel
theorem dX2_countWithVersion_1 : decode cX2_countWithVersion 1 = .ok (.istore_n 2, 1) := by decide +kernel
theorem dX2_countWithVersion_2 : decode cX2_countWithVersion 2 = .ok (.iconst 0, 1) := by decide +kernel
theorem dX2_countWithVersion_3 : decode cX2_countWithVersion 3 = .ok (.istore_n 3, 1) := by decide +kernel
theorem dX2_countWithVersion_4 : decode cX2_countWithVersion 4 = .ok (.iload_n 3, 1) := by decide +kernel
theorem dX2_countWithVersion_5 : decode cX2_countWithVersion 5 = .ok (.bipush 40, 2) := by decide +kernel
theorem dX2_countWithVersion_7 : decode cX2_countWithVersion 7 = .ok (.if_icmp .ge 22, 3) := by decide +kernel
theorem dX2_countWithVersion_10 : decode cX2_countWithVersion 10 = .ok (.aload_n 0, 1) := by decide +kernel
theorem dX2_countWithVersion_11 : decode cX2_countWithVersion 11 = .ok (.getfield 15, 3) := by decide +kernel
theorem dX2_countWithVersion_14 : decode cX2_countWithVersion 14 = .ok (.iload_n 3, 1) := by decide +kernel
theorem dX2_countWithVersion_15 : decode cX2_countWithVersion 15 = .ok (.iaload, 1) := by decide +kernel
theorem dX2_countWithVersion_16 : decode cX2_countWithVersion 16 = .ok (.iload_n 1, 1) := by decide +kernel
theorem dX2_countWithVersion_17 : decode cX2_countWithVersion 17 = .ok (.if_icmp .ne 6, 3) := by decide +kernel
theorem dX2_countWithVersion_20 : decode cX2_countWithVersion 20 = .ok (.iinc 2 1, 3) := by decide +kernel
theorem dX2_countWithVersion_23 : decode cX2_countWithVersion 23 = .ok (.iinc 3 1, 3) := by decide +kernel
theorem dX2_countWithVersion_26 : decode cX2_countWithVersion 26 = .ok (.goto (-22), 3) := by decide +kernel
theorem dX2_countWithVersion_29 : decode cX2_countWithVersion 29 = .ok (.iload_n 2, 1) := by decide +kernel
theorem dX2_countWithVersion_30 : decode cX2_countWithVersion 30 = .ok (.ireturn, 1) := by decide +kernel
set_option maxRecDepth 20000 in
theorem ggX3_init_X0_init : GoodIn wsX3_init wsX0_init := goodIn_r _ [20, 21, 2, 3, 16, 22, 23, 24, 25, 38, 39, 40, 41, 42] (by decide +kernel) (by decide +kernel)
set_option maxRecDepth 20000 in
theorem gX3_init_X0_init_n9 : GoodIn wsX3_init (wsX0_init) := ggX3_init_X0_init
set_option maxRecDepth 20000 in
theorem ggX3_init_X2_init : GoodIn wsX3_init wsX2_init := goodIn_r _ [28, 29, 2, 3, 16, 30, 31, 50, 51] (by decide +kernel) (by decide +kernel)
set_option maxRecDepth 20000 in
theorem gX3_init_X2_init : GoodIn wsX3_init (wsX2_init) := ggX3_init_X2_init
set_option maxRecDepth 20000 in
theorem ggX3_init_X1_init : GoodIn wsX3_init wsX1_init := goodIn_r _ [33, 34, 2, 3, 35, 36, 37, 52, 53, 54, 55] (by decide +kernel) (by decide +kernel)
set_option maxRecDepth 20000 in
theorem gX3_init_X1_init_n25 : GoodIn wsX3_init (wsX1_init) := ggX3_init_X1_init
theorem dX3_init_0 : decode cX3_init 0 = .ok (.aload_n 0, 1) := by decide +kernel
theorem dX3_init_1 : decode cX3_init 1 = .ok (.invokespecial 1, 3) := by decide +kernel
theorem dX3_init_4 : decode cX3_init 4 = .ok (.aload_n 0, 1) := by decide +kernel
theorem dX3_init_5 : decode cX3_init 5 = .ok (.new 7, 3) := by decide +kernel
theorem dX3_init_8 : decode cX3_init 8 = .ok (.dup, 1) := by decide +kernel
theorem dX3_init_9 : decode cX3_init 9 = .ok (.invokespecial 9, 3) := by decide +kernel
theorem dX3_init_12 : decode cX3_init 12 = .ok (.putfield 10, 3) := by decide +kernel
theorem dX3_init_15 : decode cX3_init 15 = .ok (.aload_n 0, 1) := by decide +kernel
theorem dX3_init_16 : decode cX3_init 16 = .ok (.new 16, 3) := by decide +kernel
theorem dX3_init_19 : decode cX3_init 19 = .ok (.dup, 1) := by decide +kernel
theorem dX3_init_20 : decode cX3_init 20 = .ok (.invokespecial 18, 3) := by decide +kernel
theorem dX3_init_23 : decode cX3_init 23 = .ok (.putfield 19, 3) := by decide +kernel
theorem dX3_init_26 : decode cX3_init 26 = .ok (.aload_n 0, 1) := by decide +kernel
theorem dX3_init_27 : decode cX3_init 27 = .ok (.new 23, 3) := by decide +kernel
theorem dX3_init_30 : decode cX3_init 30 = .ok (.dup, 1) := by decide +kernel
theorem dX3_init_31 : decode cX3_init 31 = .ok (.invokespecial 25, 3) := by decide +kernel
theorem dX3_init_34 : decode cX3_init 34 = .ok (.putfield 26, 3) := by decide +kernel
theorem dX3_init_37 : decode cX3_init 37 = .ok (.aload_n 0, 1) := by decide +kernel
theorem dX3_init_38 : decode cX3_init 38 = .ok (.iconst 3, 1) := by decide +kernel
theorem dX3_init_39 : decode cX3_init 39 = .ok (.newarray .int, 2) := by decide +kernel
theorem dX3_init_41 : decode cX3_init 41 = .ok (.putfield 30, 3) := by decide +kernel
theorem dX3_init_44 : decode cX3_init 44 = .ok (.aload_n 0, 1) := by decide +kernel
theorem dX3_init_45 : decode cX3_init 45 = .ok (.iconst 0, 1) := by decide +kernel
theorem dX3_init_46 : decode cX3_init 46 = .ok (.putfield 34, 3) := by decide +kernel
theorem dX3_init_49 : decode cX3_init 49 = .ok (.return_, 1) := by decide +kernel
set_option maxRecDepth 20000 in
theorem ggX3_addChange_X3_requireChangeParts : GoodIn wsX3_addChange wsX3_requireChangeParts := goodIn_ca (goodIn_r _ [7, 8, 9, 10, 11, 6, 12, 13, 14, 15, 16, 17, 18] (by decide +kernel) (by decide +kernel)) (goodIn_sub (fun _ h => List.mem_cons_of_mem _ (List.mem_append_right _ h)) (by decide +kernel))
set_option maxRecDepth 20000 in
theorem gX3_addChange_X3_requireChangeParts : GoodIn wsX3_addChange (va_wsS RX3 38 yX3_requireChangeParts wsX3_requireChangeParts) := goodIn_app (goodIn_of _ (by decide +kernel)) ggX3_addChange_X3_requireChangeParts
set_option maxRecDepth 20000 in
theorem ggX3_addChange_X0_isFull : GoodIn wsX3_addChange wsX0_isFull := goodIn_r _ [23, 24, 43, 44, 45, 46, 47] (by decide +kernel) (by decide +kernel)
set_option maxRecDepth 20000 in
theorem gX3_addChange_X0_isFull : GoodIn wsX3_addChange (wsV RX3 42 RX0 yX0_isFull wsX0_isFull) := goodIn_app (goodIn_of _ (by decide +kernel)) ggX3_addChange_X0_isFull
set_option maxRecDepth 20000 in
theorem ggX3_addChange_X0_append : GoodIn wsX3_addChange wsX0_append := goodIn_r _ [28, 24, 29, 30, 31, 22, 32, 33, 34, 35, 43, 44, 45, 46, 47] (by decide +kernel) (by decide +kernel)
set_option maxRecDepth 20000 in
theorem gX3_addChange_X0_append : GoodIn wsX3_addChange (wsV RX3 53 RX0 yX0_append wsX0_append) := goodIn_app (goodIn_of _ (by decide +kernel)) ggX3_addChange_X0_append
theorem dX3_addChange_0 : decode cX3_addChange 0 = .ok (.iload_n 1, 1) := by decide +kernel
theorem dX3_addChange_1 : decode cX3_addChange 1 = .ok (.iload_n 2, 1) := by decide +kernel
theorem dX3_addChange_2 : decode cX3_addChange 2 = .ok (.iload_n 3, 1) := by decide +kernel
theorem dX3_addChange_3 : decode cX3_addChange 3 = .ok (.invokestatic 38, 3) := by decide +kernel
theorem dX3_addChange_6 : decode cX3_addChange 6 = .ok (.aload_n 0, 1) := by decide +kernel
theorem dX3_addChange_7 : decode cX3_addChange 7 = .ok (.getfield 10, 3) := by decide +kernel
theorem dX3_addChange_10 : decode cX3_addChange 10 = .ok (.invokevirtual 42, 3) := by decide +kernel
theorem dX3_addChange_13 : decode cX3_addChange 13 = .ok (.ifCond .eq 13, 3) := by decide +kernel
theorem dX3_addChange_16 : decode cX3_addChange 16 = .ok (.new 46, 3) := by decide +kernel
theorem dX3_addChange_19 : decode cX3_addChange 19 = .ok (.dup, 1) := by decide +kernel
theorem dX3_addChange_20 : decode cX3_addChange 20 = .ok (.ldc 48, 2) := by decide +kernel
theorem dX3_addChange_22 : decode cX3_addChange 22 = .ok (.invokespecial 50, 3) := by decide +kernel
theorem dX3_addChange_25 : decode cX3_addChange 25 = .ok (.athrow, 1) := by decide +kernel
theorem dX3_addChange_26 : decode cX3_addChange 26 = .ok (.aload_n 0, 1) := by decide +kernel
theorem dX3_addChange_27 : decode cX3_addChange 27 = .ok (.getfield 10, 3) := by decide +kernel
theorem dX3_addChange_30 : decode cX3_addChange 30 = .ok (.iload_n 1, 1) := by decide +kernel
theorem dX3_addChange_31 : decode cX3_addChange 31 = .ok (.iload_n 2, 1) := by decide +kernel
theorem dX3_addChange_32 : decode cX3_addChange 32 = .ok (.iload_n 3, 1) := by decide +kernel
theorem dX3_addChange_33 : decode cX3_addChange 33 = .ok (.invokevirtual 53, 3) := by decide +kernel
theorem dX3_addChange_36 : decode cX3_addChange 36 = .ok (.ireturn, 1) := by decide +kernel
set_option maxRecDepth 20000 in
theorem ggX3_edit_X3_requireChangeParts : GoodIn wsX3_edit wsX3_requireChangeParts := goodIn_ca (goodIn_r _ [7, 8, 9, 10, 11, 6, 12, 13, 14, 15, 16, 17, 18] (by decide +kernel) (by decide +kernel)) (goodIn_sub (fun _ h => List.mem_cons_of_mem _ (List.mem_append_left _ (List.mem_append_right _ h))) (by decide +kernel))
set_option maxRecDepth 20000 in
theorem gX3_edit_X3_requireChangeParts : GoodIn wsX3_edit (va_wsS RX3 38 yX3_requireChangeParts wsX3_requireChangeParts) := goodIn_app (goodIn_of _ (by decide +kernel)) ggX3_edit_X3_requireChangeParts
set_option maxRecDepth 20000 in
theorem ggX3_edit_X3_requireListed : GoodIn wsX3_edit wsX3_requireListed := goodIn_ca (goodIn_r _ [22, 23, 24, 3, 25, 26, 27, 28, 29, 30, 53, 54, 55, 56, 57, 58, 59, 60, 61, 62, 63, 64] (by decide +kernel) (by decide +kernel)) (goodIn_sub (fun _ h => List.mem_cons_of_mem _ (List.mem_append_right _ h)) (by decide +kernel))
set_option maxRecDepth 20000 in
theorem gX3_edit_X3_requireListed : GoodIn wsX3_edit (wsV RX3 57 RX3 yX3_requireListed wsX3_requireListed) := goodIn_app (goodIn_of _ (by decide +kernel)) ggX3_edit_X3_requireListed
set_option maxRecDepth 20000 in
theorem ggX3_edit_X3_isActive : GoodIn wsX3_edit wsX3_isActive := goodIn_r _ [34, 35, 53, 54, 55, 56, 57, 58, 59] (by decide +kernel) (by decide +kernel)
set_option maxRecDepth 20000 in
theorem gX3_edit_X3_isActive : GoodIn wsX3_edit (wsV RX3 61 RX3 yX3_isActive wsX3_isActive) := goodIn_app (goodIn_of _ (by decide +kernel)) ggX3_edit_X3_isActive
set_option maxRecDepth 20000 in
theorem ggX3_edit_X3_activeNumber : GoodIn wsX3_edit wsX3_activeNumber := goodIn_r _ [39, 40, 53, 54, 55, 56, 57, 58, 59] (by decide +kernel) (by decide +kernel)
set_option maxRecDepth 20000 in
theorem gX3_edit_X3_activeNumber : GoodIn wsX3_edit (wsV RX3 64 RX3 yX3_activeNumber wsX3_activeNumber) := goodIn_app (goodIn_of _ (by decide +kernel)) ggX3_edit_X3_activeNumber
set_option maxRecDepth 20000 in
theorem ggX3_edit_X0_put : GoodIn wsX3_edit wsX0_put := goodIn_r _ [44, 45, 46, 47, 60, 61, 62, 63, 64] (by decide +kernel) (by decide +kernel)
set_option maxRecDepth 20000 in
theorem gX3_edit_X0_put : GoodIn wsX3_edit (wsV RX3 70 RX0 yX0_put wsX0_put) := goodIn_app (goodIn_of _ (by decide +kernel)) ggX3_edit_X0_put
set_option maxRecDepth 20000 in
theorem ggX3_edit_X0_checksumOf : GoodIn wsX3_edit wsX0_checksumOf := goodIn_r _ [51, 45, 46, 47, 52, 60, 61, 62, 63, 64] (by decide +kernel) (by decide +kernel)
set_option maxRecDepth 20000 in
theorem gX3_edit_X0_checksumOf : GoodIn wsX3_edit (wsV RX3 74 RX0 yX0_checksumOf wsX0_checksumOf) := goodIn_app (goodIn_of _ (by decide +kernel)) ggX3_edit_X0_checksumOf
theorem dX3_edit_0 : decode cX3_edit 0 = .ok (.iload_n 2, 1) := by decide +kernel
theorem dX3_edit_1 : decode cX3_edit 1 = .ok (.iload_n 3, 1) := by decide +kernel
theorem dX3_edit_2 : decode cX3_edit 2 = .ok (.iload 4, 2) := by decide +kernel
theorem dX3_edit_4 : decode cX3_edit 4 = .ok (.invokestatic 38, 3) := by decide +kernel
theorem dX3_edit_7 : decode cX3_edit 7 = .ok (.aload_n 0, 1) := by decide +kernel
theorem dX3_edit_8 : decode cX3_edit 8 = .ok (.iload_n 1, 1) := by decide +kernel
theorem dX3_edit_9 : decode cX3_edit 9 = .ok (.invokevirtual 57, 3) := by decide +kernel
theorem dX3_edit_12 : decode cX3_edit 12 = .ok (.aload_n 0, 1) := by decide +kernel
theorem dX3_edit_13 : decode cX3_edit 13 = .ok (.invokevirtual 61, 3) := by decide +kernel
theorem dX3_edit_16 : decode cX3_edit 16 = .ok (.ifCond .eq 21, 3) := by decide +kernel
theorem dX3_edit_19 : decode cX3_edit 19 = .ok (.iload_n 1, 1) := by decide +kernel
theorem dX3_edit_20 : decode cX3_edit 20 = .ok (.aload_n 0, 1) := by decide +kernel
theorem dX3_edit_21 : decode cX3_edit 21 = .ok (.invokevirtual 64, 3) := by decide +kernel
theorem dX3_edit_24 : decode cX3_edit 24 = .ok (.if_icmp .ne 13, 3) := by decide +kernel
theorem dX3_edit_27 : decode cX3_edit 27 = .ok (.new 46, 3) := by decide +kernel
theorem dX3_edit_30 : decode cX3_edit 30 = .ok (.dup, 1) := by decide +kernel
theorem dX3_edit_31 : decode cX3_edit 31 = .ok (.ldc 68, 2) := by decide +kernel
theorem dX3_edit_33 : decode cX3_edit 33 = .ok (.invokespecial 50, 3) := by decide +kernel
theorem dX3_edit_36 : decode cX3_edit 36 = .ok (.athrow, 1) := by decide +kernel
theorem dX3_edit_37 : decode cX3_edit 37 = .ok (.aload_n 0, 1) := by decide +kernel
theorem dX3_edit_38 : decode cX3_edit 38 = .ok (.getfield 10, 3) := by decide +kernel
theorem dX3_edit_41 : decode cX3_edit 41 = .ok (.iload_n 1, 1) := by decide +kernel
theorem dX3_edit_42 : decode cX3_edit 42 = .ok (.iload_n 2, 1) := by decide +kernel
theorem dX3_edit_43 : decode cX3_edit 43 = .ok (.iload_n 3, 1) := by decide +kernel
theorem dX3_edit_44 : decode cX3_edit 44 = .ok (.iload 4, 2) := by decide +kernel
theorem dX3_edit_46 : decode cX3_edit 46 = .ok (.invokevirtual 70, 3) := by decide +kernel
theorem dX3_edit_49 : decode cX3_edit 49 = .ok (.aload_n 0, 1) := by decide +kernel
theorem dX3_edit_50 : decode cX3_edit 50 = .ok (.getfield 10, 3) := by decide +kernel
theorem dX3_edit_53 : decode cX3_edit 53 = .ok (.iload_n 1, 1) := by decide +kernel
theorem dX3_edit_54 : decode cX3_edit 54 = .ok (.invokevirtual 74, 3) := by decide +kernel
theorem dX3_edit_57 : decode cX3_edit 57 = .ok (.ireturn, 1) := by decide +kernel
set_option maxRecDepth 20000 in
theorem ggX3_changes_X0_count : GoodIn wsX3_changes wsX0_count := goodIn_r _ [6, 7, 15, 16, 17, 18, 19] (by decide +kernel) (by decide +kernel)
set_option maxRecDepth 20000 in
theorem gX3_changes_X0_count : GoodIn wsX3_changes (wsV RX3 78 RX0 yX0_count wsX0_count) := goodIn_app (goodIn_of _ (by decide +kernel)) ggX3_changes_X0_count
theorem dX3_changes_0 : decode cX3_changes 0 = .ok (.aload_n 0, 1) := by decide +kernel
theorem dX3_changes_1 : decode cX3_changes 1 = .ok (.getfield 10, 3) := by decide +kernel
theorem dX3_changes_4 : decode cX3_changes 4 = .ok (.invokevirtual 78, 3) := by decide +kernel
theorem dX3_changes_7 : decode cX3_changes 7 = .ok (.ireturn, 1) := by decide +kernel
set_option maxRecDepth 20000 in
theorem ggX3_checksum_X3_requireListed : GoodIn wsX3_checksum wsX3_requireListed := goodIn_ca (goodIn_r _ [6, 7, 8, 1, 9, 10, 11, 12, 13, 14, 23, 24, 25, 26, 27, 28, 29, 30, 31, 32, 33, 34] (by decide +kernel) (by decide +kernel)) (goodIn_sub (fun _ h => List.mem_cons_of_mem _ (List.mem_append_right _ h)) (by decide +kernel))
set_option maxRecDepth 20000 in
theorem gX3_checksum_X3_requireListed : GoodIn wsX3_checksum (wsV RX3 57 RX3 yX3_requireListed wsX3_requireListed) := goodIn_app (goodIn_of _ (by decide +kernel)) ggX3_checksum_X3_requireListed
set_option maxRecDepth 20000 in
theorem ggX3_checksum_X0_checksumOf : GoodIn wsX3_checksum wsX0_checksumOf := goodIn_r _ [18, 19, 20, 21, 22, 30, 31, 32, 33, 34] (by decide +kernel) (by decide +kernel)
set_option maxRecDepth 20000 in
theorem gX3_checksum_X0_checksumOf : GoodIn wsX3_checksum (wsV RX3 74 RX0 yX0_checksumOf wsX0_checksumOf) := goodIn_app (goodIn_of _ (by decide +kernel)) ggX3_checksum_X0_checksumOf
theorem dX3_checksum_0 : decode cX3_checksum 0 = .ok (.aload_n 0, 1) := by decide +kernel
theorem dX3_checksum_1 : decode cX3_checksum 1 = .ok (.iload_n 1, 1) := by decide +kernel
theorem dX3_checksum_2 : decode cX3_checksum 2 = .ok (.invokevirtual 57, 3) := by decide +kernel
theorem dX3_checksum_5 : decode cX3_checksum 5 = .ok (.aload_n 0, 1) := by decide +kernel
theorem dX3_checksum_6 : decode cX3_checksum 6 = .ok (.getfield 10, 3) := by decide +kernel
theorem dX3_checksum_9 : decode cX3_checksum 9 = .ok (.iload_n 1, 1) := by decide +kernel
theorem dX3_checksum_10 : decode cX3_checksum 10 = .ok (.invokevirtual 74, 3) := by decide +kernel
theorem dX3_checksum_13 : decode cX3_checksum 13 = .ok (.ireturn, 1) := by decide +kernel
set_option maxRecDepth 20000 in
theorem ggX3_state_X3_requireListed : GoodIn wsX3_state wsX3_requireListed := goodIn_ca (goodIn_r _ [7, 8, 9, 10, 11, 12, 13, 14, 15, 16, 21, 22, 23, 24, 25, 26, 27, 28, 29, 30, 31, 32] (by decide +kernel) (by decide +kernel)) (goodIn_sub (fun _ h => List.mem_cons_of_mem _ (List.mem_append_right _ h)) (by decide +kernel))
set_option maxRecDepth 20000 in
theorem gX3_state_X3_requireListed : GoodIn wsX3_state (wsV RX3 57 RX3 yX3_requireListed wsX3_requireListed) := goodIn_app (goodIn_of _ (by decide +kernel)) ggX3_state_X3_requireListed
set_option maxRecDepth 20000 in
theorem ggX3_state_X3_activeNumber : GoodIn wsX3_state wsX3_activeNumber := goodIn_r _ [20, 1, 21, 22, 23, 24, 25, 26, 27] (by decide +kernel) (by decide +kernel)
set_option maxRecDepth 20000 in
theorem gX3_state_X3_activeNumber : GoodIn wsX3_state (wsV RX3 64 RX3 yX3_activeNumber wsX3_activeNumber) := goodIn_app (goodIn_of _ (by decide +kernel)) ggX3_state_X3_activeNumber
theorem dX3_state_0 : decode cX3_state 0 = .ok (.aload_n 0, 1) := by decide +kernel
theorem dX3_state_1 : decode cX3_state 1 = .ok (.iload_n 1, 1) := by decide +kernel
theorem dX3_state_2 : decode cX3_state 2 = .ok (.invokevirtual 57, 3) := by decide +kernel
theorem dX3_state_5 : decode cX3_state 5 = .ok (.iload_n 1, 1) := by decide +kernel
theorem dX3_state_6 : decode cX3_state 6 = .ok (.aload_n 0, 1) := by decide +kernel
theorem dX3_state_7 : decode cX3_state 7 = .ok (.getfield 81, 3) := by decide +kernel
theorem dX3_state_10 : decode cX3_state 10 = .ok (.if_icmp .gt 5, 3) := by decide +kernel
theorem dX3_state_13 : decode cX3_state 13 = .ok (.iconst 2, 1) := by decide +kernel
theorem dX3_state_14 : decode cX3_state 14 = .ok (.ireturn, 1) := by decide +kernel
theorem dX3_state_15 : decode cX3_state 15 = .ok (.iload_n 1, 1) := by decide +kernel
theorem dX3_state_16 : decode cX3_state 16 = .ok (.aload_n 0, 1) := by decide +kernel
theorem dX3_state_17 : decode cX3_state 17 = .ok (.invokevirtual 64, 3) := by decide +kernel
theorem dX3_state_20 : decode cX3_state 20 = .ok (.if_icmp .ne 10, 3) := by decide +kernel
theorem dX3_state_23 : decode cX3_state 23 = .ok (.aload_n 0, 1) := by decide +kernel
theorem dX3_state_24 : decode cX3_state 24 = .ok (.getfield 34, 3) := by decide +kernel
theorem dX3_state_27 : decode cX3_state 27 = .ok (.goto 4, 3) := by decide +kernel
theorem dX3_state_30 : decode cX3_state 30 = .ok (.iconst 0, 1) := by decide +kernel
theorem dX3_state_31 : decode cX3_state 31 = .ok (.ireturn, 1) := by decide +kernel
theorem dX3_level_0 : decode cX3_level 0 = .ok (.aload_n 0, 1) := by decide +kernel
theorem dX3_level_1 : decode cX3_level 1 = .ok (.getfield 81, 3) := by decide +kernel
theorem dX3_level_4 : decode cX3_level 4 = .ok (.ireturn, 1) := by decide +kernel
set_option maxRecDepth 20000 in
theorem ggX3_drifted_X0_firstDrifted : GoodIn wsX3_drifted wsX0_firstDrifted := goodIn_r _ [7, 8, 9, 10, 6, 11, 12, 13, 14, 15, 16, 17, 18, 19, 20, 28, 29, 30, 31, 32] (by decide +kernel) (by decide +kernel)
set_option maxRecDepth 20000 in
theorem gX3_drifted_X0_firstDrifted : GoodIn wsX3_drifted (wsV RX3 84 RX0 yX0_firstDrifted wsX0_firstDrifted) := goodIn_app (goodIn_of _ (by decide +kernel)) ggX3_drifted_X0_firstDrifted
theorem dX3_drifted_0 : decode cX3_drifted 0 = .ok (.aload_n 0, 1) := by decide +kernel
theorem dX3_drifted_1 : decode cX3_drifted 1 = .ok (.getfield 10, 3) := by decide +kernel
theorem dX3_drifted_4 : decode cX3_drifted 4 = .ok (.aload_n 0, 1) := by decide +kernel
theorem dX3_drifted_5 : decode cX3_drifted 5 = .ok (.getfield 81, 3) := by decide +kernel
theorem dX3_drifted_8 : decode cX3_drifted 8 = .ok (.invokevirtual 84, 3) := by decide +kernel
theorem dX3_drifted_11 : decode cX3_drifted 11 = .ok (.ireturn, 1) := by decide +kernel
set_option maxRecDepth 20000 in
theorem ggX3_insert_X3_requireId : GoodIn wsX3_insert wsX3_requireId := goodIn_ca (goodIn_r _ [7, 8, 9] (by decide +kernel) (by decide +kernel)) (goodIn_sub (fun _ h => List.mem_cons_of_mem _ (List.mem_append_right _ h)) (by decide +kernel))
set_option maxRecDepth 20000 in
theorem gX3_insert_X3_requireId : GoodIn wsX3_insert (va_wsS RX3 87 yX3_requireId wsX3_requireId) := goodIn_app (goodIn_of _ (by decide +kernel)) ggX3_insert_X3_requireId
set_option maxRecDepth 20000 in
theorem ggX3_insert_X3_requireTableValue : GoodIn wsX3_insert wsX3_requireTableValue := goodIn_ca (goodIn_r _ [12, 8, 9, 13, 14, 6, 15, 16, 17] (by decide +kernel) (by decide +kernel)) (goodIn_sub (fun _ h => List.mem_cons_of_mem _ (List.mem_append_right _ h)) (by decide +kernel))
set_option maxRecDepth 20000 in
theorem gX3_insert_X3_requireTableValue : GoodIn wsX3_insert (va_wsS RX3 90 yX3_requireTableValue wsX3_requireTableValue) := goodIn_app (goodIn_of _ (by decide +kernel)) ggX3_insert_X3_requireTableValue
set_option maxRecDepth 20000 in
theorem ggX3_insert_X2_isPresent : GoodIn wsX3_insert wsX2_isPresent := goodIn_r _ [22, 23, 55, 56] (by decide +kernel) (by decide +kernel)
set_option maxRecDepth 20000 in
theorem gX3_insert_X2_isPresent : GoodIn wsX3_insert (wsV RX3 93 RX2 yX2_isPresent wsX2_isPresent) := goodIn_app (goodIn_of _ (by decide +kernel)) ggX3_insert_X2_isPresent
set_option maxRecDepth 20000 in
theorem ggX3_insert_X3_versionForNewRow : GoodIn wsX3_insert wsX3_versionForNewRow := goodIn_r _ [27, 28, 29, 30, 31, 32, 6, 33, 34, 35, 36, 37, 38, 48, 49, 50, 51, 52, 53, 54] (by decide +kernel) (by decide +kernel)
set_option maxRecDepth 20000 in
theorem gX3_insert_X3_versionForNewRow : GoodIn wsX3_insert (wsV RX3 99 RX3 yX3_versionForNewRow wsX3_versionForNewRow) := goodIn_app (goodIn_of _ (by decide +kernel)) ggX3_insert_X3_versionForNewRow
set_option maxRecDepth 20000 in
theorem ggX3_insert_X2_setCell : GoodIn wsX3_insert wsX2_setCell := goodIn_r _ [42, 43, 55, 56] (by decide +kernel) (by decide +kernel)
set_option maxRecDepth 20000 in
theorem gX3_insert_X2_setCell : GoodIn wsX3_insert (wsV RX3 102 RX2 yX2_setCell wsX2_setCell) := goodIn_app (goodIn_of _ (by decide +kernel)) ggX3_insert_X2_setCell
set_option maxRecDepth 20000 in
theorem ggX3_insert_X2_setVersion : GoodIn wsX3_insert wsX2_setVersion := goodIn_r _ [47, 23, 55, 56] (by decide +kernel) (by decide +kernel)
set_option maxRecDepth 20000 in
theorem gX3_insert_X2_setVersion : GoodIn wsX3_insert (wsV RX3 105 RX2 yX2_setVersion wsX2_setVersion) := goodIn_app (goodIn_of _ (by decide +kernel)) ggX3_insert_X2_setVersion
theorem dX3_insert_0 : decode cX3_insert 0 = .ok (.iload_n 1, 1) := by decide +kernel
theorem dX3_insert_1 : decode cX3_insert 1 = .ok (.invokestatic 87, 3) := by decide +kernel
theorem dX3_insert_4 : decode cX3_insert 4 = .ok (.iload_n 2, 1) := by decide +kernel
theorem dX3_insert_5 : decode cX3_insert 5 = .ok (.invokestatic 90, 3) := by decide +kernel
theorem dX3_insert_8 : decode cX3_insert 8 = .ok (.iload_n 3, 1) := by decide +kernel
theorem dX3_insert_9 : decode cX3_insert 9 = .ok (.invokestatic 90, 3) := by decide +kernel
theorem dX3_insert_12 : decode cX3_insert 12 = .ok (.iload 4, 2) := by decide +kernel
theorem dX3_insert_14 : decode cX3_insert 14 = .ok (.invokestatic 90, 3) := by decide +kernel
theorem dX3_insert_17 : decode cX3_insert 17 = .ok (.aload_n 0, 1) := by decide +kernel
theorem dX3_insert_18 : decode cX3_insert 18 = .ok (.getfield 19, 3) := by decide +kernel
theorem dX3_insert_21 : decode cX3_insert 21 = .ok (.iload_n 1, 1) := by decide +kernel
theorem dX3_insert_22 : decode cX3_insert 22 = .ok (.invokevirtual 93, 3) := by decide +kernel
theorem dX3_insert_25 : decode cX3_insert 25 = .ok (.ifCond .eq 13, 3) := by decide +kernel
theorem dX3_insert_28 : decode cX3_insert 28 = .ok (.new 46, 3) := by decide +kernel
theorem dX3_insert_31 : decode cX3_insert 31 = .ok (.dup, 1) := by decide +kernel
theorem dX3_insert_32 : decode cX3_insert 32 = .ok (.ldc 97, 2) := by decide +kernel
theorem dX3_insert_34 : decode cX3_insert 34 = .ok (.invokespecial 50, 3) := by decide +kernel
theorem dX3_insert_37 : decode cX3_insert 37 = .ok (.athrow, 1) := by decide +kernel
theorem dX3_insert_38 : decode cX3_insert 38 = .ok (.aload_n 0, 1) := by decide +kernel
theorem dX3_insert_39 : decode cX3_insert 39 = .ok (.iload_n 1, 1) := by decide +kernel
theorem dX3_insert_40 : decode cX3_insert 40 = .ok (.invokevirtual 99, 3) := by decide +kernel
theorem dX3_insert_43 : decode cX3_insert 43 = .ok (.istore 5, 2) := by decide +kernel
theorem dX3_insert_45 : decode cX3_insert 45 = .ok (.aload_n 0, 1) := by decide +kernel
theorem dX3_insert_46 : decode cX3_insert 46 = .ok (.getfield 19, 3) := by decide +kernel
theorem dX3_insert_49 : decode cX3_insert 49 = .ok (.iload_n 1, 1) := by decide +kernel
theorem dX3_insert_50 : decode cX3_insert 50 = .ok (.iconst 0, 1) := by decide +kernel
theorem dX3_insert_51 : decode cX3_insert 51 = .ok (.iload_n 2, 1) := by decide +kernel
theorem dX3_insert_52 : decode cX3_insert 52 = .ok (.invokevirtual 102, 3) := by decide +kernel
theorem dX3_insert_55 : decode cX3_insert 55 = .ok (.aload_n 0, 1) := by decide +kernel
theorem dX3_insert_56 : decode cX3_insert 56 = .ok (.getfield 19, 3) := by decide +kernel
theorem dX3_insert_59 : decode cX3_insert 59 = .ok (.iload_n 1, 1) := by decide +kernel
theorem dX3_insert_60 : decode cX3_insert 60 = .ok (.iconst 1, 1) := by decide +kernel
theorem dX3_insert_61 : decode cX3_insert 61 = .ok (.iload_n 3, 1) := by decide +kernel
theorem dX3_insert_62 : decode cX3_insert 62 = .ok (.invokevirtual 102, 3) := by decide +kernel
theorem dX3_insert_65 : decode cX3_insert 65 = .ok (.aload_n 0, 1) := by decide +kernel
theorem dX3_insert_66 : decode cX3_insert 66 = .ok (.getfield 19, 3) := by decide +kernel
theorem dX3_insert_69 : decode cX3_insert 69 = .ok (.iload_n 1, 1) := by decide +kernel
theorem dX3_insert_70 : decode cX3_insert 70 = .ok (.iconst 2, 1) := by decide +kernel
theorem dX3_insert_71 : decode cX3_insert 71 = .ok (.iload 4, 2) := by decide +kernel
theorem dX3_insert_73 : decode cX3_insert 73 = .ok (.invokevirtual 102, 3) := by decide +kernel
theorem dX3_insert_76 : decode cX3_insert 76 = .ok (.aload_n 0, 1) := by decide +kernel
theorem dX3_insert_77 : decode cX3_insert 77 = .ok (.getfield 19, 3) := by decide +kernel
theorem dX3_insert_80 : decode cX3_insert 80 = .ok (.iload_n 1, 1) := by decide +kernel
theorem dX3_insert_81 : decode cX3_insert 81 = .ok (.iload 5, 2) := by decide +kernel
theorem dX3_insert_83 : decode cX3_insert 83 = .ok (.invokevirtual 105, 3) := by decide +kernel
theorem dX3_insert_86 : decode cX3_insert 86 = .ok (.iload 5, 2) := by decide +kernel
theorem dX3_insert_88 : decode cX3_insert 88 = .ok (.ireturn, 1) := by decide +kernel
set_option maxRecDepth 20000 in
theorem ggX3_write_X3_requireId : GoodIn wsX3_write wsX3_requireId := goodIn_ca (goodIn_r _ [5, 6, 7] (by decide +kernel) (by decide +kernel)) (goodIn_sub (fun _ h => List.mem_cons_of_mem _ (List.mem_append_left _ (List.mem_append_right _ h))) (by decide +kernel))
set_option maxRecDepth 20000 in
theorem gX3_write_X3_requireId : GoodIn wsX3_write (va_wsS RX3 87 yX3_requireId wsX3_requireId) := goodIn_app (goodIn_of _ (by decide +kernel)) ggX3_write_X3_requireId
set_option maxRecDepth 20000 in
theorem ggX3_write_X3_requireColumn : GoodIn wsX3_write wsX3_requireColumn := goodIn_ca (goodIn_r _ [10, 6, 7, 11, 12, 4, 13] (by decide +kernel) (by decide +kernel)) (goodIn_sub (fun _ h => List.mem_cons_of_mem _ (List.mem_append_left _ (List.mem_append_right _ h))) (by decide +kernel))
set_option maxRecDepth 20000 in
theorem gX3_write_X3_requireColumn : GoodIn wsX3_write (va_wsS RX3 109 yX3_requireColumn wsX3_requireColumn) := goodIn_app (goodIn_of _ (by decide +kernel)) ggX3_write_X3_requireColumn
set_option maxRecDepth 20000 in
theorem ggX3_write_X3_requireTableValue : GoodIn wsX3_write wsX3_requireTableValue := goodIn_ca (goodIn_r _ [16, 6, 7, 17, 18, 4, 19, 20, 21] (by decide +kernel) (by decide +kernel)) (goodIn_sub (fun _ h => List.mem_cons_of_mem _ (List.mem_append_left _ (List.mem_append_right _ h))) (by decide +kernel))
set_option maxRecDepth 20000 in
theorem gX3_write_X3_requireTableValue : GoodIn wsX3_write (va_wsS RX3 90 yX3_requireTableValue wsX3_requireTableValue) := goodIn_app (goodIn_of _ (by decide +kernel)) ggX3_write_X3_requireTableValue
set_option maxRecDepth 20000 in
theorem ggX3_write_X3_requirePresent : GoodIn wsX3_write wsX3_requirePresent := goodIn_ca (goodIn_r _ [25, 26, 27, 1, 28, 29, 30, 31, 32, 33, 43, 44, 45, 46, 47, 48, 49, 50, 51] (by decide +kernel) (by decide +kernel)) (goodIn_sub (fun _ h => List.mem_cons_of_mem _ (List.mem_append_right _ h)) (by decide +kernel))
set_option maxRecDepth 20000 in
theorem gX3_write_X3_requirePresent : GoodIn wsX3_write (wsV RX3 112 RX3 yX3_requirePresent wsX3_requirePresent) := goodIn_app (goodIn_of _ (by decide +kernel)) ggX3_write_X3_requirePresent
set_option maxRecDepth 20000 in
theorem ggX3_write_X2_cell : GoodIn wsX3_write wsX2_cell := goodIn_r _ [37, 38, 50, 51] (by decide +kernel) (by decide +kernel)
set_option maxRecDepth 20000 in
theorem gX3_write_X2_cell : GoodIn wsX3_write (wsV RX3 115 RX2 yX2_cell wsX2_cell) := goodIn_app (goodIn_of _ (by decide +kernel)) ggX3_write_X2_cell
set_option maxRecDepth 20000 in
theorem ggX3_write_X2_setCell : GoodIn wsX3_write wsX2_setCell := goodIn_r _ [42, 38, 50, 51] (by decide +kernel) (by decide +kernel)
set_option maxRecDepth 20000 in
theorem gX3_write_X2_setCell : GoodIn wsX3_write (wsV RX3 102 RX2 yX2_setCell wsX2_setCell) := goodIn_app (goodIn_of _ (by decide +kernel)) ggX3_write_X2_setCell
theorem dX3_write_0 : decode cX3_write 0 = .ok (.iload_n 1, 1) := by decide +kernel
theorem dX3_write_1 : decode cX3_write 1 = .ok (.invokestatic 87, 3) := by decide +kernel
theorem dX3_write_4 : decode cX3_write 4 = .ok (.iload_n 2, 1) := by decide +kernel
theorem dX3_write_5 : decode cX3_write 5 = .ok (.invokestatic 109, 3) := by decide +kernel
theorem dX3_write_8 : decode cX3_write 8 = .ok (.iload_n 3, 1) := by decide +kernel
theorem dX3_write_9 : decode cX3_write 9 = .ok (.invokestatic 90, 3) := by decide +kernel
theorem dX3_write_12 : decode cX3_write 12 = .ok (.aload_n 0, 1) := by decide +kernel
theorem dX3_write_13 : decode cX3_write 13 = .ok (.iload_n 1, 1) := by decide +kernel
theorem dX3_write_14 : decode cX3_write 14 = .ok (.invokevirtual 112, 3) := by decide +kernel
theorem dX3_write_17 : decode cX3_write 17 = .ok (.aload_n 0, 1) := by decide +kernel
theorem dX3_write_18 : decode cX3_write 18 = .ok (.getfield 19, 3) := by decide +kernel
theorem dX3_write_21 : decode cX3_write 21 = .ok (.iload_n 1, 1) := by decide +kernel
theorem dX3_write_22 : decode cX3_write 22 = .ok (.iload_n 2, 1) := by decide +kernel
theorem dX3_write_23 : decode cX3_write 23 = .ok (.invokevirtual 115, 3) := by decide +kernel
theorem dX3_write_26 : decode cX3_write 26 = .ok (.istore 4, 2) := by decide +kernel
theorem dX3_write_28 : decode cX3_write 28 = .ok (.aload_n 0, 1) := by decide +kernel
theorem dX3_write_29 : decode cX3_write 29 = .ok (.getfield 19, 3) := by decide +kernel
theorem dX3_write_32 : decode cX3_write 32 = .ok (.iload_n 1, 1) := by decide +kernel
theorem dX3_write_33 : decode cX3_write 33 = .ok (.iload_n 2, 1) := by decide +kernel
theorem dX3_write_34 : decode cX3_write 34 = .ok (.iload_n 3, 1) := by decide +kernel
theorem dX3_write_35 : decode cX3_write 35 = .ok (.invokevirtual 102, 3) := by decide +kernel
theorem dX3_write_38 : decode cX3_write 38 = .ok (.iload 4, 2) := by decide +kernel
theorem dX3_write_40 : decode cX3_write 40 = .ok (.ireturn, 1) := by decide +kernel
set_option maxRecDepth 20000 in
theorem ggX3_delete_X3_requireId : GoodIn wsX3_delete wsX3_requireId := goodIn_ca (goodIn_r _ [5, 6, 7] (by decide +kernel) (by decide +kernel)) (goodIn_sub (fun _ h => List.mem_cons_of_mem _ (List.mem_append_left _ (List.mem_append_right _ h))) (by decide +kernel))
set_option maxRecDepth 20000 in
theorem gX3_delete_X3_requireId : GoodIn wsX3_delete (va_wsS RX3 87 yX3_requireId wsX3_requireId) := goodIn_app (goodIn_of _ (by decide +kernel)) ggX3_delete_X3_requireId
set_option maxRecDepth 20000 in
theorem ggX3_delete_X3_requirePresent : GoodIn wsX3_delete wsX3_requirePresent := goodIn_ca (goodIn_r _ [11, 12, 13, 1, 14, 15, 16, 17, 18, 19, 28, 29, 30, 31, 32, 33, 34, 35, 36] (by decide +kernel) (by decide +kernel)) (goodIn_sub (fun _ h => List.mem_cons_of_mem _ (List.mem_append_right _ h)) (by decide +kernel))
set_option maxRecDepth 20000 in
theorem gX3_delete_X3_requirePresent : GoodIn wsX3_delete (wsV RX3 112 RX3 yX3_requirePresent wsX3_requirePresent) := goodIn_app (goodIn_of _ (by decide +kernel)) ggX3_delete_X3_requirePresent
set_option maxRecDepth 20000 in
theorem ggX3_delete_X2_versionOf : GoodIn wsX3_delete wsX2_versionOf := goodIn_r _ [23, 19, 35, 36] (by decide +kernel) (by decide +kernel)
set_option maxRecDepth 20000 in
theorem gX3_delete_X2_versionOf : GoodIn wsX3_delete (wsV RX3 119 RX2 yX2_versionOf wsX2_versionOf) := goodIn_app (goodIn_of _ (by decide +kernel)) ggX3_delete_X2_versionOf
set_option maxRecDepth 20000 in
theorem ggX3_delete_X2_setVersion : GoodIn wsX3_delete wsX2_setVersion := goodIn_r _ [27, 19, 35, 36] (by decide +kernel) (by decide +kernel)
set_option maxRecDepth 20000 in
theorem gX3_delete_X2_setVersion : GoodIn wsX3_delete (wsV RX3 105 RX2 yX2_setVersion wsX2_setVersion) := goodIn_app (goodIn_of _ (by decide +kernel)) ggX3_delete_X2_setVersion
theorem dX3_delete_0 : decode cX3_delete 0 = .ok (.iload_n 1, 1) := by decide +kernel
theorem dX3_delete_1 : decode cX3_delete 1 = .ok (.invokestatic 87, 3) := by decide +kernel
theorem dX3_delete_4 : decode cX3_delete 4 = .ok (.aload_n 0, 1) := by decide +kernel
theorem dX3_delete_5 : decode cX3_delete 5 = .ok (.iload_n 1, 1) := by decide +kernel
theorem dX3_delete_6 : decode cX3_delete 6 = .ok (.invokevirtual 112, 3) := by decide +kernel
theorem dX3_delete_9 : decode cX3_delete 9 = .ok (.aload_n 0, 1) := by decide +kernel
theorem dX3_delete_10 : decode cX3_delete 10 = .ok (.getfield 19, 3) := by decide +kernel
theorem dX3_delete_13 : decode cX3_delete 13 = .ok (.iload_n 1, 1) := by decide +kernel
theorem dX3_delete_14 : decode cX3_delete 14 = .ok (.invokevirtual 119, 3) := by decide +kernel
theorem dX3_delete_17 : decode cX3_delete 17 = .ok (.istore_n 2, 1) := by decide +kernel
theorem dX3_delete_18 : decode cX3_delete 18 = .ok (.aload_n 0, 1) := by decide +kernel
theorem dX3_delete_19 : decode cX3_delete 19 = .ok (.getfield 19, 3) := by decide +kernel
theorem dX3_delete_22 : decode cX3_delete 22 = .ok (.iload_n 1, 1) := by decide +kernel
theorem dX3_delete_23 : decode cX3_delete 23 = .ok (.iconst (-1), 1) := by decide +kernel
theorem dX3_delete_24 : decode cX3_delete 24 = .ok (.invokevirtual 105, 3) := by decide +kernel
theorem dX3_delete_27 : decode cX3_delete 27 = .ok (.iload_n 2, 1) := by decide +kernel
theorem dX3_delete_28 : decode cX3_delete 28 = .ok (.ireturn, 1) := by decide +kernel
set_option maxRecDepth 20000 in
theorem ggX3_value_X3_requireId : GoodIn wsX3_value wsX3_requireId := goodIn_ca (goodIn_r _ [5, 6, 7] (by decide +kernel) (by decide +kernel)) (goodIn_sub (fun _ h => List.mem_cons_of_mem _ (List.mem_append_left _ (List.mem_append_right _ h))) (by decide +kernel))
set_option maxRecDepth 20000 in
theorem gX3_value_X3_requireId : GoodIn wsX3_value (va_wsS RX3 87 yX3_requireId wsX3_requireId) := goodIn_app (goodIn_of _ (by decide +kernel)) ggX3_value_X3_requireId
set_option maxRecDepth 20000 in
theorem ggX3_value_X3_requireColumn : GoodIn wsX3_value wsX3_requireColumn := goodIn_ca (goodIn_r _ [10, 6, 7, 11, 12, 4, 13] (by decide +kernel) (by decide +kernel)) (goodIn_sub (fun _ h => List.mem_cons_of_mem _ (List.mem_append_left _ (List.mem_append_right _ h))) (by decide +kernel))
set_option maxRecDepth 20000 in
theorem gX3_value_X3_requireColumn : GoodIn wsX3_value (va_wsS RX3 109 yX3_requireColumn wsX3_requireColumn) := goodIn_app (goodIn_of _ (by decide +kernel)) ggX3_value_X3_requireColumn
set_option maxRecDepth 20000 in
theorem ggX3_value_X3_requirePresent : GoodIn wsX3_value wsX3_requirePresent := goodIn_ca (goodIn_r _ [17, 18, 19, 1, 20, 21, 22, 23, 24, 25, 31, 32, 33, 34, 35, 36, 37, 38, 39] (by decide +kernel) (by decide +kernel)) (goodIn_sub (fun _ h => List.mem_cons_of_mem _ (List.mem_append_right _ h)) (by decide +kernel))
set_option maxRecDepth 20000 in
theorem gX3_value_X3_requirePresent : GoodIn wsX3_value (wsV RX3 112 RX3 yX3_requirePresent wsX3_requirePresent) := goodIn_app (goodIn_of _ (by decide +kernel)) ggX3_value_X3_requirePresent
set_option maxRecDepth 20000 in
theorem ggX3_value_X2_cell : GoodIn wsX3_value wsX2_cell := goodIn_r _ [29, 30, 38, 39] (by decide +kernel) (by decide +kernel)
set_option maxRecDepth 20000 in
theorem gX3_value_X2_cell : GoodIn wsX3_value (wsV RX3 115 RX2 yX2_cell wsX2_cell) := goodIn_app (goodIn_of _ (by decide +kernel)) ggX3_value_X2_cell
theorem dX3_value_0 : decode cX3_value 0 = .ok (.iload_n 1, 1) := by decide +kernel
theorem dX3_value_1 : decode cX3_value 1 = .ok (.invokestatic 87, 3) := by decide +kernel
theorem dX3_value_4 : decode cX3_value 4 = .ok (.iload_n 2, 1) := by decide +kernel
theorem dX3_value_5 : decode cX3_value 5 = .ok (.invokestatic 109, 3) := by decide +kernel
theorem dX3_value_8 : decode cX3_value 8 = .ok (.aload_n 0, 1) := by decide +kernel
theorem dX3_value_9 : decode cX3_value 9 = .ok (.iload_n 1, 1) := by decide +kernel
theorem dX3_value_10 : decode cX3_value 10 = .ok (.invokevirtual 112, 3) := by decide +kernel
theorem dX3_value_13 : decode cX3_value 13 = .ok (.aload_n 0, 1) := by decide +kernel
theorem dX3_value_14 : decode cX3_value 14 = .ok (.getfield 19, 3) := by decide +kernel
theorem dX3_value_17 : decode cX3_value 17 = .ok (.iload_n 1, 1) := by decide +kernel
theorem dX3_value_18 : decode cX3_value 18 = .ok (.iload_n 2, 1) := by decide +kernel
theorem dX3_value_19 : decode cX3_value 19 = .ok (.invokevirtual 115, 3) := by decide +kernel
theorem dX3_value_22 : decode cX3_value 22 = .ok (.ireturn, 1) := by decide +kernel
set_option maxRecDepth 20000 in
theorem ggX3_version_X3_requireId : GoodIn wsX3_version wsX3_requireId := goodIn_ca (goodIn_r _ [5, 6, 7] (by decide +kernel) (by decide +kernel)) (goodIn_sub (fun _ h => List.mem_cons_of_mem _ (List.mem_append_right _ h)) (by decide +kernel))
set_option maxRecDepth 20000 in
theorem gX3_version_X3_requireId : GoodIn wsX3_version (va_wsS RX3 87 yX3_requireId wsX3_requireId) := goodIn_app (goodIn_of _ (by decide +kernel)) ggX3_version_X3_requireId
set_option maxRecDepth 20000 in
theorem ggX3_version_X2_versionOf : GoodIn wsX3_version wsX2_versionOf := goodIn_r _ [12, 13, 21, 22] (by decide +kernel) (by decide +kernel)
set_option maxRecDepth 20000 in
theorem gX3_version_X2_versionOf : GoodIn wsX3_version (wsV RX3 119 RX2 yX2_versionOf wsX2_versionOf) := goodIn_app (goodIn_of _ (by decide +kernel)) ggX3_version_X2_versionOf
theorem dX3_version_0 : decode cX3_version 0 = .ok (.iload_n 1, 1) := by decide +kernel
theorem dX3_version_1 : decode cX3_version 1 = .ok (.invokestatic 87, 3) := by decide +kernel
theorem dX3_version_4 : decode cX3_version 4 = .ok (.aload_n 0, 1) := by decide +kernel
theorem dX3_version_5 : decode cX3_version 5 = .ok (.getfield 19, 3) := by decide +kernel
theorem dX3_version_8 : decode cX3_version 8 = .ok (.iload_n 1, 1) := by decide +kernel
theorem dX3_version_9 : decode cX3_version 9 = .ok (.invokevirtual 119, 3) := by decide +kernel
theorem dX3_version_12 : decode cX3_version 12 = .ok (.ireturn, 1) := by decide +kernel
set_option maxRecDepth 20000 in
theorem ggX3_rowsAt_X2_countWithVersion : GoodIn wsX3_rowsAt wsX2_countWithVersion := goodIn_r _ [8, 9, 17, 18] (by decide +kernel) (by decide +kernel)
set_option maxRecDepth 20000 in
theorem gX3_rowsAt_X2_countWithVersion : GoodIn wsX3_rowsAt (wsV RX3 127 RX2 yX2_countWithVersion wsX2_countWithVersion) := goodIn_app (goodIn_of _ (by decide +kernel)) ggX3_rowsAt_X2_countWithVersion
theorem dX3_rowsAt_0 : decode cX3_rowsAt 0 = .ok (.iload_n 1, 1) := by decide +kernel
theorem dX3_rowsAt_1 : decode cX3_rowsAt 1 = .ok (.ifCond .lt 9, 3) := by decide +kernel
theorem dX3_rowsAt_4 : decode cX3_rowsAt 4 = .ok (.iload_n 1, 1) := by decide +kernel
theorem dX3_rowsAt_5 : decode cX3_rowsAt 5 = .ok (.bipush 12, 2) := by decide +kernel
theorem dX3_rowsAt_7 : decode cX3_rowsAt 7 = .ok (.if_icmp .le 13, 3) := by decide +kernel
theorem dX3_rowsAt_10 : decode cX3_rowsAt 10 = .ok (.new 122, 3) := by decide +kernel
theorem dX3_rowsAt_13 : decode cX3_rowsAt 13 = .ok (.dup, 1) := by decide +kernel
theorem dX3_rowsAt_14 : decode cX3_rowsAt 14 = .ok (.ldc 124, 2) := by decide +kernel
theorem dX3_rowsAt_16 : decode cX3_rowsAt 16 = .ok (.invokespecial 126, 3) := by decide +kernel
theorem dX3_rowsAt_19 : decode cX3_rowsAt 19 = .ok (.athrow, 1) := by decide +kernel
theorem dX3_rowsAt_20 : decode cX3_rowsAt 20 = .ok (.aload_n 0, 1) := by decide +kernel
theorem dX3_rowsAt_21 : decode cX3_rowsAt 21 = .ok (.getfield 19, 3) := by decide +kernel
theorem dX3_rowsAt_24 : decode cX3_rowsAt 24 = .ok (.iload_n 1, 1) := by decide +kernel
