theorem dX1_init_0 : decode cX1_init 0 = .ok (.aload_n 0, 1) := by decide +kernel
theorem dX1_init_1 : decode cX1_init 1 = .ok (.invokespecial 1, 3) := by decide +kernel
theorem dX1_init_4 : decode cX1_init 4 = .ok (.aload_n 0, 1) := by decide +kernel
theorem dX1_init_5 : decode cX1_init 5 = .ok (.bipush 12, 2) := by decide +kernel
theorem dX1_init_7 : decode cX1_init 7 = .ok (.newarray .int, 2) := by decide +kernel
theorem dX1_init_9 : decode cX1_init 9 = .ok (.putfield 9, 3) := by decide +kernel
theorem dX1_init_12 : decode cX1_init 12 = .ok (.aload_n 0, 1) := by decide +kernel
theorem dX1_init_13 : decode cX1_init 13 = .ok (.bipush 120, 2) := by decide +kernel
theorem dX1_init_15 : decode cX1_init 15 = .ok (.newarray .int, 2) := by decide +kernel
theorem dX1_init_17 : decode cX1_init 17 = .ok (.putfield 13, 3) := by decide +kernel
theorem dX1_init_20 : decode cX1_init 20 = .ok (.aload_n 0, 1) := by decide +kernel
theorem dX1_init_21 : decode cX1_init 21 = .ok (.sipush 720, 3) := by decide +kernel
theorem dX1_init_24 : decode cX1_init 24 = .ok (.newarray .boolean, 2) := by decide +kernel
theorem dX1_init_26 : decode cX1_init 26 = .ok (.putfield 16, 3) := by decide +kernel
theorem dX1_init_29 : decode cX1_init 29 = .ok (.return_, 1) := by decide +kernel
theorem dX1_thrown_0 : decode cX1_thrown 0 = .ok (.aload_n 0, 1) := by decide +kernel
theorem dX1_thrown_1 : decode cX1_thrown 1 = .ok (.getfield 20, 3) := by decide +kernel
theorem dX1_thrown_4 : decode cX1_thrown 4 = .ok (.ireturn, 1) := by decide +kernel
theorem dX1_fail_0 : decode cX1_fail 0 = .ok (.aload_n 0, 1) := by decide +kernel
theorem dX1_fail_1 : decode cX1_fail 1 = .ok (.iload_n 1, 1) := by decide +kernel
theorem dX1_fail_2 : decode cX1_fail 2 = .ok (.putfield 20, 3) := by decide +kernel
theorem dX1_fail_5 : decode cX1_fail 5 = .ok (.iconst 0, 1) := by decide +kernel
theorem dX1_fail_6 : decode cX1_fail 6 = .ok (.ireturn, 1) := by decide +kernel
theorem dX1_isIn_0 : decode cX1_isIn 0 = .ok (.iload_n 0, 1) := by decide +kernel
theorem dX1_isIn_1 : decode cX1_isIn 1 = .ok (.iload_n 1, 1) := by decide +kernel
theorem dX1_isIn_2 : decode cX1_isIn 2 = .ok (.if_icmp .lt 12, 3) := by decide +kernel
theorem dX1_isIn_5 : decode cX1_isIn 5 = .ok (.iload_n 0, 1) := by decide +kernel
theorem dX1_isIn_6 : decode cX1_isIn 6 = .ok (.iload_n 2, 1) := by decide +kernel
theorem dX1_isIn_7 : decode cX1_isIn 7 = .ok (.if_icmp .gt 7, 3) := by decide +kernel
theorem dX1_isIn_10 : decode cX1_isIn 10 = .ok (.iconst 1, 1) := by decide +kernel
theorem dX1_isIn_11 : decode cX1_isIn 11 = .ok (.goto 4, 3) := by decide +kernel
theorem dX1_isIn_14 : decode cX1_isIn 14 = .ok (.iconst 0, 1) := by decide +kernel
theorem dX1_isIn_15 : decode cX1_isIn 15 = .ok (.ireturn, 1) := by decide +kernel
set_option maxRecDepth 20000 in
theorem ggX1_isLine_X1_isIn : GoodIn wsX1_isLine wsX1_isIn := goodIn_r _ [5] (by decide +kernel) (by decide +kernel)
set_option maxRecDepth 20000 in
theorem gX1_isLine_X1_isIn : GoodIn wsX1_isLine (va_wsS RX1 27 yX1_isIn wsX1_isIn) := goodIn_app (goodIn_of _ (by decide +kernel)) ggX1_isLine_X1_isIn
theorem dX1_isLine_0 : decode cX1_isLine 0 = .ok (.iload_n 1, 1) := by decide +kernel
theorem dX1_isLine_1 : decode cX1_isLine 1 = .ok (.iconst 0, 1) := by decide +kernel
theorem dX1_isLine_2 : decode cX1_isLine 2 = .ok (.aload_n 0, 1) := by decide +kernel
theorem dX1_isLine_3 : decode cX1_isLine 3 = .ok (.getfield 24, 3) := by decide +kernel
theorem dX1_isLine_6 : decode cX1_isLine 6 = .ok (.iconst 1, 1) := by decide +kernel
theorem dX1_isLine_7 : decode cX1_isLine 7 = .ok (.isub, 1) := by decide +kernel
theorem dX1_isLine_8 : decode cX1_isLine 8 = .ok (.invokestatic 27, 3) := by decide +kernel
theorem dX1_isLine_11 : decode cX1_isLine 11 = .ok (.ireturn, 1) := by decide +kernel
set_option maxRecDepth 20000 in
theorem ggX1_count_X1_isIn : GoodIn wsX1_count wsX1_isIn := goodIn_r _ [6] (by decide +kernel) (by decide +kernel)
set_option maxRecDepth 20000 in
theorem gX1_count_X1_isIn : GoodIn wsX1_count (va_wsS RX1 27 yX1_isIn wsX1_isIn) := goodIn_app (goodIn_of _ (by decide +kernel)) ggX1_count_X1_isIn
set_option maxRecDepth 20000 in
theorem ggX1_count_X1_fail : GoodIn wsX1_count wsX1_fail := goodIn_r _ [10, 1, 11, 12, 13, 14, 15, 16] (by decide +kernel) (by decide +kernel)
set_option maxRecDepth 20000 in
theorem gX1_count_X1_fail : GoodIn wsX1_count (wsV RX1 31 RX1 yX1_fail wsX1_fail) := goodIn_app (goodIn_of _ (by decide +kernel)) ggX1_count_X1_fail
theorem dX1_count_0 : decode cX1_count 0 = .ok (.aload_n 0, 1) := by decide +kernel
theorem dX1_count_1 : decode cX1_count 1 = .ok (.iconst 0, 1) := by decide +kernel
theorem dX1_count_2 : decode cX1_count 2 = .ok (.putfield 20, 3) := by decide +kernel
theorem dX1_count_5 : decode cX1_count 5 = .ok (.iload_n 1, 1) := by decide +kernel
theorem dX1_count_6 : decode cX1_count 6 = .ok (.iconst 0, 1) := by decide +kernel
theorem dX1_count_7 : decode cX1_count 7 = .ok (.iconst 2, 1) := by decide +kernel
theorem dX1_count_8 : decode cX1_count 8 = .ok (.invokestatic 27, 3) := by decide +kernel
theorem dX1_count_11 : decode cX1_count 11 = .ok (.ifCond .ne 9, 3) := by decide +kernel
theorem dX1_count_14 : decode cX1_count 14 = .ok (.aload_n 0, 1) := by decide +kernel
theorem dX1_count_15 : decode cX1_count 15 = .ok (.iconst 1, 1) := by decide +kernel
theorem dX1_count_16 : decode cX1_count 16 = .ok (.invokevirtual 31, 3) := by decide +kernel
theorem dX1_count_19 : decode cX1_count 19 = .ok (.ireturn, 1) := by decide +kernel
theorem dX1_count_20 : decode cX1_count 20 = .ok (.aload_n 0, 1) := by decide +kernel
theorem dX1_count_21 : decode cX1_count 21 = .ok (.getfield 35, 3) := by decide +kernel
theorem dX1_count_24 : decode cX1_count 24 = .ok (.istore_n 2, 1) := by decide +kernel
theorem dX1_count_25 : decode cX1_count 25 = .ok (.aload_n 0, 1) := by decide +kernel
theorem dX1_count_26 : decode cX1_count 26 = .ok (.iload_n 1, 1) := by decide +kernel
theorem dX1_count_27 : decode cX1_count 27 = .ok (.putfield 35, 3) := by decide +kernel
theorem dX1_count_30 : decode cX1_count 30 = .ok (.iload_n 2, 1) := by decide +kernel
theorem dX1_count_31 : decode cX1_count 31 = .ok (.ireturn, 1) := by decide +kernel
theorem dX1_valueOf_0 : decode cX1_valueOf 0 = .ok (.aload_n 0, 1) := by decide +kernel
theorem dX1_valueOf_1 : decode cX1_valueOf 1 = .ok (.getfield 35, 3) := by decide +kernel
theorem dX1_valueOf_4 : decode cX1_valueOf 4 = .ok (.iconst 1, 1) := by decide +kernel
theorem dX1_valueOf_5 : decode cX1_valueOf 5 = .ok (.if_icmp .ne 5, 3) := by decide +kernel
theorem dX1_valueOf_8 : decode cX1_valueOf 8 = .ok (.iload_n 1, 1) := by decide +kernel
theorem dX1_valueOf_9 : decode cX1_valueOf 9 = .ok (.ireturn, 1) := by decide +kernel
theorem dX1_valueOf_10 : decode cX1_valueOf 10 = .ok (.aload_n 0, 1) := by decide +kernel
theorem dX1_valueOf_11 : decode cX1_valueOf 11 = .ok (.getfield 35, 3) := by decide +kernel
theorem dX1_valueOf_14 : decode cX1_valueOf 14 = .ok (.iconst 2, 1) := by decide +kernel
theorem dX1_valueOf_15 : decode cX1_valueOf 15 = .ok (.if_icmp .ne 15, 3) := by decide +kernel
theorem dX1_valueOf_18 : decode cX1_valueOf 18 = .ok (.iload_n 1, 1) := by decide +kernel
theorem dX1_valueOf_19 : decode cX1_valueOf 19 = .ok (.iload_n 1, 1) := by decide +kernel
theorem dX1_valueOf_20 : decode cX1_valueOf 20 = .ok (.imul, 1) := by decide +kernel
theorem dX1_valueOf_21 : decode cX1_valueOf 21 = .ok (.bipush 7, 2) := by decide +kernel
theorem dX1_valueOf_23 : decode cX1_valueOf 23 = .ok (.imul, 1) := by decide +kernel
theorem dX1_valueOf_24 : decode cX1_valueOf 24 = .ok (.bipush 101, 2) := by decide +kernel
theorem dX1_valueOf_26 : decode cX1_valueOf 26 = .ok (.irem, 1) := by decide +kernel
theorem dX1_valueOf_27 : decode cX1_valueOf 27 = .ok (.iconst 1, 1) := by decide +kernel
theorem dX1_valueOf_28 : decode cX1_valueOf 28 = .ok (.iadd, 1) := by decide +kernel
theorem dX1_valueOf_29 : decode cX1_valueOf 29 = .ok (.ireturn, 1) := by decide +kernel
theorem dX1_valueOf_30 : decode cX1_valueOf 30 = .ok (.iload_n 1, 1) := by decide +kernel
theorem dX1_valueOf_31 : decode cX1_valueOf 31 = .ok (.bipush 10, 2) := by decide +kernel
theorem dX1_valueOf_33 : decode cX1_valueOf 33 = .ok (.if_icmp .ge 7, 3) := by decide +kernel
theorem dX1_valueOf_36 : decode cX1_valueOf 36 = .ok (.iload_n 1, 1) := by decide +kernel
theorem dX1_valueOf_37 : decode cX1_valueOf 37 = .ok (.goto 26, 3) := by decide +kernel
theorem dX1_valueOf_40 : decode cX1_valueOf 40 = .ok (.iload_n 1, 1) := by decide +kernel
theorem dX1_valueOf_41 : decode cX1_valueOf 41 = .ok (.bipush 19, 2) := by decide +kernel
theorem dX1_valueOf_43 : decode cX1_valueOf 43 = .ok (.if_icmp .ge 13, 3) := by decide +kernel
theorem dX1_valueOf_46 : decode cX1_valueOf 46 = .ok (.bipush 10, 2) := by decide +kernel
theorem dX1_valueOf_48 : decode cX1_valueOf 48 = .ok (.iload_n 1, 1) := by decide +kernel
theorem dX1_valueOf_49 : decode cX1_valueOf 49 = .ok (.bipush 9, 2) := by decide +kernel
theorem dX1_valueOf_51 : decode cX1_valueOf 51 = .ok (.isub, 1) := by decide +kernel
theorem dX1_valueOf_52 : decode cX1_valueOf 52 = .ok (.imul, 1) := by decide +kernel
theorem dX1_valueOf_53 : decode cX1_valueOf 53 = .ok (.goto 10, 3) := by decide +kernel
theorem dX1_valueOf_56 : decode cX1_valueOf 56 = .ok (.bipush 100, 2) := by decide +kernel
theorem dX1_valueOf_58 : decode cX1_valueOf 58 = .ok (.iload_n 1, 1) := by decide +kernel
theorem dX1_valueOf_59 : decode cX1_valueOf 59 = .ok (.bipush 18, 2) := by decide +kernel
theorem dX1_valueOf_61 : decode cX1_valueOf 61 = .ok (.isub, 1) := by decide +kernel
theorem dX1_valueOf_62 : decode cX1_valueOf 62 = .ok (.imul, 1) := by decide +kernel
theorem dX1_valueOf_63 : decode cX1_valueOf 63 = .ok (.ireturn, 1) := by decide +kernel
set_option maxRecDepth 20000 in
theorem ggX1_letter_X1_isIn : GoodIn wsX1_letter wsX1_isIn := goodIn_r _ [5] (by decide +kernel) (by decide +kernel)
set_option maxRecDepth 20000 in
theorem gX1_letter_X1_isIn : GoodIn wsX1_letter (va_wsS RX1 27 yX1_isIn wsX1_isIn) := goodIn_app (goodIn_of _ (by decide +kernel)) ggX1_letter_X1_isIn
set_option maxRecDepth 20000 in
theorem ggX1_letter_X1_valueOf : GoodIn wsX1_letter wsX1_valueOf := goodIn_r _ [9, 10, 15, 16, 17, 18, 19, 20] (by decide +kernel) (by decide +kernel)
set_option maxRecDepth 20000 in
theorem gX1_letter_X1_valueOf : GoodIn wsX1_letter (wsV RX1 38 RX1 yX1_valueOf wsX1_valueOf) := goodIn_app (goodIn_of _ (by decide +kernel)) ggX1_letter_X1_valueOf
set_option maxRecDepth 20000 in
theorem ggX1_letter_X1_fail : GoodIn wsX1_letter wsX1_fail := goodIn_r _ [14, 1, 15, 16, 17, 18, 19, 20] (by decide +kernel) (by decide +kernel)
set_option maxRecDepth 20000 in
theorem gX1_letter_X1_fail : GoodIn wsX1_letter (wsV RX1 31 RX1 yX1_fail wsX1_fail) := goodIn_app (goodIn_of _ (by decide +kernel)) ggX1_letter_X1_fail
theorem dX1_letter_0 : decode cX1_letter 0 = .ok (.aload_n 0, 1) := by decide +kernel
theorem dX1_letter_1 : decode cX1_letter 1 = .ok (.iconst 0, 1) := by decide +kernel
theorem dX1_letter_2 : decode cX1_letter 2 = .ok (.putfield 20, 3) := by decide +kernel
theorem dX1_letter_5 : decode cX1_letter 5 = .ok (.iload_n 1, 1) := by decide +kernel
theorem dX1_letter_6 : decode cX1_letter 6 = .ok (.iconst 1, 1) := by decide +kernel
theorem dX1_letter_7 : decode cX1_letter 7 = .ok (.bipush 26, 2) := by decide +kernel
theorem dX1_letter_9 : decode cX1_letter 9 = .ok (.invokestatic 27, 3) := by decide +kernel
theorem dX1_letter_12 : decode cX1_letter 12 = .ok (.ifCond .eq 11, 3) := by decide +kernel
theorem dX1_letter_15 : decode cX1_letter 15 = .ok (.aload_n 0, 1) := by decide +kernel
theorem dX1_letter_16 : decode cX1_letter 16 = .ok (.iload_n 1, 1) := by decide +kernel
theorem dX1_letter_17 : decode cX1_letter 17 = .ok (.invokevirtual 38, 3) := by decide +kernel
theorem dX1_letter_20 : decode cX1_letter 20 = .ok (.goto 8, 3) := by decide +kernel
theorem dX1_letter_23 : decode cX1_letter 23 = .ok (.aload_n 0, 1) := by decide +kernel
theorem dX1_letter_24 : decode cX1_letter 24 = .ok (.iconst 1, 1) := by decide +kernel
theorem dX1_letter_25 : decode cX1_letter 25 = .ok (.invokevirtual 31, 3) := by decide +kernel
theorem dX1_letter_28 : decode cX1_letter 28 = .ok (.ireturn, 1) := by decide +kernel
theorem dX1_size_0 : decode cX1_size 0 = .ok (.iconst 0, 1) := by decide +kernel
theorem dX1_size_1 : decode cX1_size 1 = .ok (.istore_n 1, 1) := by decide +kernel
theorem dX1_size_2 : decode cX1_size 2 = .ok (.iload_n 0, 1) := by decide +kernel
theorem dX1_size_3 : decode cX1_size 3 = .ok (.istore_n 2, 1) := by decide +kernel
theorem dX1_size_4 : decode cX1_size 4 = .ok (.iload_n 2, 1) := by decide +kernel
theorem dX1_size_5 : decode cX1_size 5 = .ok (.ifCond .le 14, 3) := by decide +kernel
theorem dX1_size_8 : decode cX1_size 8 = .ok (.iinc 1 1, 3) := by decide +kernel
theorem dX1_size_11 : decode cX1_size 11 = .ok (.iload_n 2, 1) := by decide +kernel
theorem dX1_size_12 : decode cX1_size 12 = .ok (.bipush 27, 2) := by decide +kernel
theorem dX1_size_14 : decode cX1_size 14 = .ok (.idiv, 1) := by decide +kernel
theorem dX1_size_15 : decode cX1_size 15 = .ok (.istore_n 2, 1) := by decide +kernel
theorem dX1_size_16 : decode cX1_size 16 = .ok (.goto (-12), 3) := by decide +kernel
theorem dX1_size_19 : decode cX1_size 19 = .ok (.iload_n 1, 1) := by decide +kernel
theorem dX1_size_20 : decode cX1_size 20 = .ok (.ireturn, 1) := by decide +kernel
set_option maxRecDepth 20000 in
theorem ggX1_isWord_X1_size : GoodIn wsX1_isWord wsX1_size := goodIn_r _ [4] (by decide +kernel) (by decide +kernel)
set_option maxRecDepth 20000 in
theorem gX1_isWord_X1_size : GoodIn wsX1_isWord (va_wsS RX1 41 yX1_size wsX1_size) := goodIn_app (goodIn_of _ (by decide +kernel)) ggX1_isWord_X1_size
theorem dX1_isWord_0 : decode cX1_isWord 0 = .ok (.iload_n 0, 1) := by decide +kernel
theorem dX1_isWord_1 : decode cX1_isWord 1 = .ok (.istore_n 1, 1) := by decide +kernel
theorem dX1_isWord_2 : decode cX1_isWord 2 = .ok (.iload_n 1, 1) := by decide +kernel
theorem dX1_isWord_3 : decode cX1_isWord 3 = .ok (.ifCond .le 20, 3) := by decide +kernel
theorem dX1_isWord_6 : decode cX1_isWord 6 = .ok (.iload_n 1, 1) := by decide +kernel
theorem dX1_isWord_7 : decode cX1_isWord 7 = .ok (.bipush 27, 2) := by decide +kernel
theorem dX1_isWord_9 : decode cX1_isWord 9 = .ok (.irem, 1) := by decide +kernel
theorem dX1_isWord_10 : decode cX1_isWord 10 = .ok (.ifCond .ne 5, 3) := by decide +kernel
theorem dX1_isWord_13 : decode cX1_isWord 13 = .ok (.iconst 0, 1) := by decide +kernel
theorem dX1_isWord_14 : decode cX1_isWord 14 = .ok (.ireturn, 1) := by decide +kernel
theorem dX1_isWord_15 : decode cX1_isWord 15 = .ok (.iload_n 1, 1) := by decide +kernel
theorem dX1_isWord_16 : decode cX1_isWord 16 = .ok (.bipush 27, 2) := by decide +kernel
theorem dX1_isWord_18 : decode cX1_isWord 18 = .ok (.idiv, 1) := by decide +kernel
theorem dX1_isWord_19 : decode cX1_isWord 19 = .ok (.istore_n 1, 1) := by decide +kernel
theorem dX1_isWord_20 : decode cX1_isWord 20 = .ok (.goto (-18), 3) := by decide +kernel
theorem dX1_isWord_23 : decode cX1_isWord 23 = .ok (.iload_n 0, 1) := by decide +kernel
theorem dX1_isWord_24 : decode cX1_isWord 24 = .ok (.ifCond .le 16, 3) := by decide +kernel
theorem dX1_isWord_27 : decode cX1_isWord 27 = .ok (.iload_n 0, 1) := by decide +kernel
theorem dX1_isWord_28 : decode cX1_isWord 28 = .ok (.invokestatic 41, 3) := by decide +kernel
theorem dX1_isWord_31 : decode cX1_isWord 31 = .ok (.bipush 6, 2) := by decide +kernel
theorem dX1_isWord_33 : decode cX1_isWord 33 = .ok (.if_icmp .gt 7, 3) := by decide +kernel
theorem dX1_isWord_36 : decode cX1_isWord 36 = .ok (.iconst 1, 1) := by decide +kernel
theorem dX1_isWord_37 : decode cX1_isWord 37 = .ok (.goto 4, 3) := by decide +kernel
theorem dX1_isWord_40 : decode cX1_isWord 40 = .ok (.iconst 0, 1) := by decide +kernel
theorem dX1_isWord_41 : decode cX1_isWord 41 = .ok (.ireturn, 1) := by decide +kernel
set_option maxRecDepth 20000 in
theorem ggX1_at_X1_size : GoodIn wsX1_at wsX1_size := goodIn_r _ [4] (by decide +kernel) (by decide +kernel)
set_option maxRecDepth 20000 in
theorem gX1_at_X1_size : GoodIn wsX1_at (va_wsS RX1 41 yX1_size wsX1_size) := goodIn_app (goodIn_of _ (by decide +kernel)) ggX1_at_X1_size
theorem dX1_at_0 : decode cX1_at 0 = .ok (.iload_n 0, 1) := by decide +kernel
theorem dX1_at_1 : decode cX1_at 1 = .ok (.istore_n 2, 1) := by decide +kernel
theorem dX1_at_2 : decode cX1_at 2 = .ok (.iload_n 0, 1) := by decide +kernel
theorem dX1_at_3 : decode cX1_at 3 = .ok (.invokestatic 41, 3) := by decide +kernel
theorem dX1_at_6 : decode cX1_at 6 = .ok (.iconst 1, 1) := by decide +kernel
theorem dX1_at_7 : decode cX1_at 7 = .ok (.isub, 1) := by decide +kernel
theorem dX1_at_8 : decode cX1_at 8 = .ok (.istore_n 3, 1) := by decide +kernel
theorem dX1_at_9 : decode cX1_at 9 = .ok (.iload_n 3, 1) := by decide +kernel
theorem dX1_at_10 : decode cX1_at 10 = .ok (.iload_n 1, 1) := by decide +kernel
theorem dX1_at_11 : decode cX1_at 11 = .ok (.if_icmp .le 14, 3) := by decide +kernel
theorem dX1_at_14 : decode cX1_at 14 = .ok (.iload_n 2, 1) := by decide +kernel
theorem dX1_at_15 : decode cX1_at 15 = .ok (.bipush 27, 2) := by decide +kernel
theorem dX1_at_17 : decode cX1_at 17 = .ok (.idiv, 1) := by decide +kernel
theorem dX1_at_18 : decode cX1_at 18 = .ok (.istore_n 2, 1) := by decide +kernel
theorem dX1_at_19 : decode cX1_at 19 = .ok (.iinc 3 (-1), 3) := by decide +kernel
theorem dX1_at_22 : decode cX1_at 22 = .ok (.goto (-13), 3) := by decide +kernel
theorem dX1_at_25 : decode cX1_at 25 = .ok (.iload_n 2, 1) := by decide +kernel
theorem dX1_at_26 : decode cX1_at 26 = .ok (.bipush 27, 2) := by decide +kernel
theorem dX1_at_28 : decode cX1_at 28 = .ok (.irem, 1) := by decide +kernel
theorem dX1_at_29 : decode cX1_at 29 = .ok (.ireturn, 1) := by decide +kernel
set_option maxRecDepth 20000 in
theorem ggX1_sum_X1_size : GoodIn wsX1_sum wsX1_size := goodIn_r _ [4] (by decide +kernel) (by decide +kernel)
set_option maxRecDepth 20000 in
theorem gX1_sum_X1_size : GoodIn wsX1_sum (va_wsS RX1 41 yX1_size wsX1_size) := goodIn_app (goodIn_of _ (by decide +kernel)) ggX1_sum_X1_size
set_option maxRecDepth 20000 in
theorem ggX1_sum_X1_at : GoodIn wsX1_sum wsX1_at := goodIn_r _ [7, 1, 2, 3, 4] (by decide +kernel) (by decide +kernel)
set_option maxRecDepth 20000 in
theorem gX1_sum_X1_at : GoodIn wsX1_sum (va_wsS RX1 44 yX1_at wsX1_at) := goodIn_app (goodIn_of _ (by decide +kernel)) ggX1_sum_X1_at
set_option maxRecDepth 20000 in
theorem ggX1_sum_X1_valueOf : GoodIn wsX1_sum wsX1_valueOf := goodIn_r _ [11, 12, 13, 14, 15, 16, 17, 18] (by decide +kernel) (by decide +kernel)
set_option maxRecDepth 20000 in
theorem gX1_sum_X1_valueOf : GoodIn wsX1_sum (wsV RX1 38 RX1 yX1_valueOf wsX1_valueOf) := goodIn_app (goodIn_of _ (by decide +kernel)) ggX1_sum_X1_valueOf
theorem dX1_sum_0 : decode cX1_sum 0 = .ok (.iconst 0, 1) := by decide +kernel
theorem dX1_sum_1 : decode cX1_sum 1 = .ok (.istore_n 2, 1) := by decide +kernel
theorem dX1_sum_2 : decode cX1_sum 2 = .ok (.iconst 0, 1) := by decide +kernel
theorem dX1_sum_3 : decode cX1_sum 3 = .ok (.istore_n 3, 1) := by decide +kernel
theorem dX1_sum_4 : decode cX1_sum 4 = .ok (.iload_n 3, 1) := by decide +kernel
theorem dX1_sum_5 : decode cX1_sum 5 = .ok (.iload_n 1, 1) := by decide +kernel
theorem dX1_sum_6 : decode cX1_sum 6 = .ok (.invokestatic 41, 3) := by decide +kernel
theorem dX1_sum_9 : decode cX1_sum 9 = .ok (.if_icmp .ge 21, 3) := by decide +kernel
theorem dX1_sum_12 : decode cX1_sum 12 = .ok (.iload_n 2, 1) := by decide +kernel
theorem dX1_sum_13 : decode cX1_sum 13 = .ok (.aload_n 0, 1) := by decide +kernel
theorem dX1_sum_14 : decode cX1_sum 14 = .ok (.iload_n 1, 1) := by decide +kernel
theorem dX1_sum_15 : decode cX1_sum 15 = .ok (.iload_n 3, 1) := by decide +kernel
theorem dX1_sum_16 : decode cX1_sum 16 = .ok (.invokestatic 44, 3) := by decide +kernel
theorem dX1_sum_19 : decode cX1_sum 19 = .ok (.invokevirtual 38, 3) := by decide +kernel
theorem dX1_sum_22 : decode cX1_sum 22 = .ok (.iadd, 1) := by decide +kernel
theorem dX1_sum_23 : decode cX1_sum 23 = .ok (.istore_n 2, 1) := by decide +kernel
theorem dX1_sum_24 : decode cX1_sum 24 = .ok (.iinc 3 1, 3) := by decide +kernel
theorem dX1_sum_27 : decode cX1_sum 27 = .ok (.goto (-23), 3) := by decide +kernel
theorem dX1_sum_30 : decode cX1_sum 30 = .ok (.iload_n 2, 1) := by decide +kernel
theorem dX1_sum_31 : decode cX1_sum 31 = .ok (.ireturn, 1) := by decide +kernel
set_option maxRecDepth 20000 in
theorem ggX1_value_X1_isWord : GoodIn wsX1_value wsX1_isWord := goodIn_r _ [5, 6, 7, 4, 8] (by decide +kernel) (by decide +kernel)
set_option maxRecDepth 20000 in
theorem gX1_value_X1_isWord : GoodIn wsX1_value (va_wsS RX1 48 yX1_isWord wsX1_isWord) := goodIn_app (goodIn_of _ (by decide +kernel)) ggX1_value_X1_isWord
set_option maxRecDepth 20000 in
theorem ggX1_value_X1_sum : GoodIn wsX1_value wsX1_sum := goodIn_r _ [12, 6, 7, 4, 8, 13, 14, 15, 16, 17, 18, 19, 20, 25, 26, 27, 28, 29, 30] (by decide +kernel) (by decide +kernel)
set_option maxRecDepth 20000 in
theorem gX1_value_X1_sum : GoodIn wsX1_value (wsV RX1 52 RX1 yX1_sum wsX1_sum) := goodIn_app (goodIn_of _ (by decide +kernel)) ggX1_value_X1_sum
set_option maxRecDepth 20000 in
theorem ggX1_value_X1_fail : GoodIn wsX1_value wsX1_fail := goodIn_r _ [24, 1, 25, 26, 27, 28, 29, 30] (by decide +kernel) (by decide +kernel)
set_option maxRecDepth 20000 in
theorem gX1_value_X1_fail : GoodIn wsX1_value (wsV RX1 31 RX1 yX1_fail wsX1_fail) := goodIn_app (goodIn_of _ (by decide +kernel)) ggX1_value_X1_fail
theorem dX1_value_0 : decode cX1_value 0 = .ok (.aload_n 0, 1) := by decide +kernel
theorem dX1_value_1 : decode cX1_value 1 = .ok (.iconst 0, 1) := by decide +kernel
theorem dX1_value_2 : decode cX1_value 2 = .ok (.putfield 20, 3) := by decide +kernel
theorem dX1_value_5 : decode cX1_value 5 = .ok (.iload_n 1, 1) := by decide +kernel
theorem dX1_value_6 : decode cX1_value 6 = .ok (.invokestatic 48, 3) := by decide +kernel
theorem dX1_value_9 : decode cX1_value 9 = .ok (.ifCond .eq 11, 3) := by decide +kernel
theorem dX1_value_12 : decode cX1_value 12 = .ok (.aload_n 0, 1) := by decide +kernel
theorem dX1_value_13 : decode cX1_value 13 = .ok (.iload_n 1, 1) := by decide +kernel
theorem dX1_value_14 : decode cX1_value 14 = .ok (.invokevirtual 52, 3) := by decide +kernel
theorem dX1_value_17 : decode cX1_value 17 = .ok (.goto 8, 3) := by decide +kernel
theorem dX1_value_20 : decode cX1_value 20 = .ok (.aload_n 0, 1) := by decide +kernel
theorem dX1_value_21 : decode cX1_value 21 = .ok (.iconst 1, 1) := by decide +kernel
theorem dX1_value_22 : decode cX1_value 22 = .ok (.invokevirtual 31, 3) := by decide +kernel
theorem dX1_value_25 : decode cX1_value 25 = .ok (.ireturn, 1) := by decide +kernel
set_option maxRecDepth 20000 in
theorem ggX1_often_X1_size : GoodIn wsX1_often wsX1_size := goodIn_r _ [4] (by decide +kernel) (by decide +kernel)
set_option maxRecDepth 20000 in
theorem gX1_often_X1_size : GoodIn wsX1_often (va_wsS RX1 41 yX1_size wsX1_size) := goodIn_app (goodIn_of _ (by decide +kernel)) ggX1_often_X1_size
set_option maxRecDepth 20000 in
theorem ggX1_often_X1_at : GoodIn wsX1_often wsX1_at := goodIn_r _ [7, 1, 2, 3, 4] (by decide +kernel) (by decide +kernel)
set_option maxRecDepth 20000 in
theorem gX1_often_X1_at : GoodIn wsX1_often (va_wsS RX1 44 yX1_at wsX1_at) := goodIn_app (goodIn_of _ (by decide +kernel)) ggX1_often_X1_at
theorem dX1_often_0 : decode cX1_often 0 = .ok (.iconst 0, 1) := by decide +kernel
theorem dX1_often_1 : decode cX1_often 1 = .ok (.istore_n 2, 1) := by decide +kernel
theorem dX1_often_2 : decode cX1_often 2 = .ok (.iconst 0, 1) := by decide +kernel
theorem dX1_often_3 : decode cX1_often 3 = .ok (.istore_n 3, 1) := by decide +kernel
theorem dX1_often_4 : decode cX1_often 4 = .ok (.iload_n 3, 1) := by decide +kernel
theorem dX1_often_5 : decode cX1_often 5 = .ok (.iload_n 0, 1) := by decide +kernel
theorem dX1_often_6 : decode cX1_often 6 = .ok (.invokestatic 41, 3) := by decide +kernel
theorem dX1_often_9 : decode cX1_often 9 = .ok (.if_icmp .ge 26, 3) := by decide +kernel
theorem dX1_often_12 : decode cX1_often 12 = .ok (.iload_n 2, 1) := by decide +kernel
theorem dX1_often_13 : decode cX1_often 13 = .ok (.iload_n 0, 1) := by decide +kernel
theorem dX1_often_14 : decode cX1_often 14 = .ok (.iload_n 3, 1) := by decide +kernel
theorem dX1_often_15 : decode cX1_often 15 = .ok (.invokestatic 44, 3) := by decide +kernel
theorem dX1_often_18 : decode cX1_often 18 = .ok (.iload_n 1, 1) := by decide +kernel
theorem dX1_often_19 : decode cX1_often 19 = .ok (.if_icmp .ne 7, 3) := by decide +kernel
theorem dX1_often_22 : decode cX1_often 22 = .ok (.iconst 1, 1) := by decide +kernel
theorem dX1_often_23 : decode cX1_often 23 = .ok (.goto 4, 3) := by decide +kernel
theorem dX1_often_26 : decode cX1_often 26 = .ok (.iconst 0, 1) := by decide +kernel
theorem dX1_often_27 : decode cX1_often 27 = .ok (.iadd, 1) := by decide +kernel
theorem dX1_often_28 : decode cX1_often 28 = .ok (.istore_n 2, 1) := by decide +kernel
theorem dX1_often_29 : decode cX1_often 29 = .ok (.iinc 3 1, 3) := by decide +kernel
theorem dX1_often_32 : decode cX1_often 32 = .ok (.goto (-28), 3) := by decide +kernel
theorem dX1_often_35 : decode cX1_often 35 = .ok (.iload_n 2, 1) := by decide +kernel
theorem dX1_often_36 : decode cX1_often 36 = .ok (.ireturn, 1) := by decide +kernel
set_option maxRecDepth 20000 in
theorem ggX1_alike_X1_isWord : GoodIn wsX1_alike wsX1_isWord := goodIn_r _ [5, 6, 7, 4, 8] (by decide +kernel) (by decide +kernel)
set_option maxRecDepth 20000 in
theorem gX1_alike_X1_isWord : GoodIn wsX1_alike (va_wsS RX1 48 yX1_isWord wsX1_isWord) := goodIn_app (goodIn_of _ (by decide +kernel)) ggX1_alike_X1_isWord
set_option maxRecDepth 20000 in
theorem ggX1_alike_X1_often : GoodIn wsX1_alike wsX1_often := goodIn_r _ [11, 6, 7, 4, 8, 12, 13, 14] (by decide +kernel) (by decide +kernel)
set_option maxRecDepth 20000 in
theorem gX1_alike_X1_often : GoodIn wsX1_alike (va_wsS RX1 55 yX1_often wsX1_often) := goodIn_app (goodIn_of _ (by decide +kernel)) ggX1_alike_X1_often
theorem dX1_alike_0 : decode cX1_alike 0 = .ok (.aload_n 0, 1) := by decide +kernel
theorem dX1_alike_1 : decode cX1_alike 1 = .ok (.iload_n 1, 1) := by decide +kernel
theorem dX1_alike_2 : decode cX1_alike 2 = .ok (.invokestatic 48, 3) := by decide +kernel
theorem dX1_alike_5 : decode cX1_alike 5 = .ok (.ifCond .eq 14, 3) := by decide +kernel
theorem dX1_alike_8 : decode cX1_alike 8 = .ok (.iload_n 2, 1) := by decide +kernel
theorem dX1_alike_9 : decode cX1_alike 9 = .ok (.invokestatic 48, 3) := by decide +kernel
theorem dX1_alike_12 : decode cX1_alike 12 = .ok (.ifCond .eq 7, 3) := by decide +kernel
theorem dX1_alike_15 : decode cX1_alike 15 = .ok (.iconst 0, 1) := by decide +kernel
theorem dX1_alike_16 : decode cX1_alike 16 = .ok (.goto 4, 3) := by decide +kernel
theorem dX1_alike_19 : decode cX1_alike 19 = .ok (.iconst 1, 1) := by decide +kernel
theorem dX1_alike_20 : decode cX1_alike 20 = .ok (.putfield 20, 3) := by decide +kernel
theorem dX1_alike_23 : decode cX1_alike 23 = .ok (.aload_n 0, 1) := by decide +kernel
theorem dX1_alike_24 : decode cX1_alike 24 = .ok (.getfield 20, 3) := by decide +kernel
theorem dX1_alike_27 : decode cX1_alike 27 = .ok (.ifCond .ne 7, 3) := by decide +kernel
theorem dX1_alike_30 : decode cX1_alike 30 = .ok (.iconst 1, 1) := by decide +kernel
theorem dX1_alike_31 : decode cX1_alike 31 = .ok (.goto 4, 3) := by decide +kernel
theorem dX1_alike_34 : decode cX1_alike 34 = .ok (.iconst 0, 1) := by decide +kernel
theorem dX1_alike_35 : decode cX1_alike 35 = .ok (.istore_n 3, 1) := by decide +kernel
theorem dX1_alike_36 : decode cX1_alike 36 = .ok (.iconst 1, 1) := by decide +kernel
theorem dX1_alike_37 : decode cX1_alike 37 = .ok (.istore 4, 2) := by decide +kernel
theorem dX1_alike_39 : decode cX1_alike 39 = .ok (.iload 4, 2) := by decide +kernel
theorem dX1_alike_41 : decode cX1_alike 41 = .ok (.bipush 26, 2) := by decide +kernel
theorem dX1_alike_43 : decode cX1_alike 43 = .ok (.if_icmp .gt 34, 3) := by decide +kernel
theorem dX1_alike_46 : decode cX1_alike 46 = .ok (.iload_n 3, 1) := by decide +kernel
theorem dX1_alike_47 : decode cX1_alike 47 = .ok (.ifCond .eq 30, 3) := by decide +kernel
theorem dX1_alike_50 : decode cX1_alike 50 = .ok (.iload_n 1, 1) := by decide +kernel
theorem dX1_alike_51 : decode cX1_alike 51 = .ok (.iload 4, 2) := by decide +kernel
theorem dX1_alike_53 : decode cX1_alike 53 = .ok (.invokestatic 55, 3) := by decide +kernel
theorem dX1_alike_56 : decode cX1_alike 56 = .ok (.iload_n 2, 1) := by decide +kernel
theorem dX1_alike_57 : decode cX1_alike 57 = .ok (.iload 4, 2) := by decide +kernel
theorem dX1_alike_59 : decode cX1_alike 59 = .ok (.invokestatic 55, 3) := by decide +kernel
theorem dX1_alike_62 : decode cX1_alike 62 = .ok (.if_icmp .ne 7, 3) := by decide +kernel
theorem dX1_alike_65 : decode cX1_alike 65 = .ok (.iconst 1, 1) := by decide +kernel
theorem dX1_alike_66 : decode cX1_alike 66 = .ok (.goto 4, 3) := by decide +kernel
theorem dX1_alike_69 : decode cX1_alike 69 = .ok (.iconst 0, 1) := by decide +kernel
theorem dX1_alike_70 : decode cX1_alike 70 = .ok (.istore_n 3, 1) := by decide +kernel
theorem dX1_alike_71 : decode cX1_alike 71 = .ok (.iinc 4 1, 3) := by decide +kernel
theorem dX1_alike_74 : decode cX1_alike 74 = .ok (.goto (-35), 3) := by decide +kernel
theorem dX1_alike_77 : decode cX1_alike 77 = .ok (.iload_n 3, 1) := by decide +kernel
theorem dX1_alike_78 : decode cX1_alike 78 = .ok (.ireturn, 1) := by decide +kernel
set_option maxRecDepth 20000 in
theorem ggX1_write_X1_fail : GoodIn wsX1_write wsX1_fail := goodIn_r _ [7, 1, 8, 9, 10, 11, 12, 13] (by decide +kernel) (by decide +kernel)
set_option maxRecDepth 20000 in
theorem gX1_write_X1_fail : GoodIn wsX1_write (wsV RX1 31 RX1 yX1_fail wsX1_fail) := goodIn_app (goodIn_of _ (by decide +kernel)) ggX1_write_X1_fail
theorem dX1_write_0 : decode cX1_write 0 = .ok (.aload_n 0, 1) := by decide +kernel
theorem dX1_write_1 : decode cX1_write 1 = .ok (.iconst 0, 1) := by decide +kernel
theorem dX1_write_2 : decode cX1_write 2 = .ok (.putfield 20, 3) := by decide +kernel
theorem dX1_write_5 : decode cX1_write 5 = .ok (.aload_n 0, 1) := by decide +kernel
theorem dX1_write_6 : decode cX1_write 6 = .ok (.getfield 24, 3) := by decide +kernel
theorem dX1_write_9 : decode cX1_write 9 = .ok (.bipush 12, 2) := by decide +kernel
theorem dX1_write_11 : decode cX1_write 11 = .ok (.if_icmp .ne 9, 3) := by decide +kernel
theorem dX1_write_14 : decode cX1_write 14 = .ok (.aload_n 0, 1) := by decide +kernel
theorem dX1_write_15 : decode cX1_write 15 = .ok (.iconst 1, 1) := by decide +kernel
theorem dX1_write_16 : decode cX1_write 16 = .ok (.invokevirtual 31, 3) := by decide +kernel
theorem dX1_write_19 : decode cX1_write 19 = .ok (.ireturn, 1) := by decide +kernel
theorem dX1_write_20 : decode cX1_write 20 = .ok (.aload_n 0, 1) := by decide +kernel
theorem dX1_write_21 : decode cX1_write 21 = .ok (.dup, 1) := by decide +kernel
theorem dX1_write_22 : decode cX1_write 22 = .ok (.getfield 24, 3) := by decide +kernel
theorem dX1_write_25 : decode cX1_write 25 = .ok (.iconst 1, 1) := by decide +kernel
theorem dX1_write_26 : decode cX1_write 26 = .ok (.iadd, 1) := by decide +kernel
theorem dX1_write_27 : decode cX1_write 27 = .ok (.putfield 24, 3) := by decide +kernel
theorem dX1_write_30 : decode cX1_write 30 = .ok (.aload_n 0, 1) := by decide +kernel
theorem dX1_write_31 : decode cX1_write 31 = .ok (.getfield 24, 3) := by decide +kernel
theorem dX1_write_34 : decode cX1_write 34 = .ok (.iconst 1, 1) := by decide +kernel
theorem dX1_write_35 : decode cX1_write 35 = .ok (.isub, 1) := by decide +kernel
theorem dX1_write_36 : decode cX1_write 36 = .ok (.ireturn, 1) := by decide +kernel
theorem dX1_wo_0 : decode cX1_wo 0 = .ok (.aload_n 0, 1) := by decide +kernel
theorem dX1_wo_1 : decode cX1_wo 1 = .ok (.getfield 13, 3) := by decide +kernel
theorem dX1_wo_4 : decode cX1_wo 4 = .ok (.bipush 10, 2) := by decide +kernel
theorem dX1_wo_6 : decode cX1_wo 6 = .ok (.iload_n 1, 1) := by decide +kernel
theorem dX1_wo_7 : decode cX1_wo 7 = .ok (.imul, 1) := by decide +kernel
theorem dX1_wo_8 : decode cX1_wo 8 = .ok (.iload_n 2, 1) := by decide +kernel
theorem dX1_wo_9 : decode cX1_wo 9 = .ok (.iadd, 1) := by decide +kernel
theorem dX1_wo_10 : decode cX1_wo 10 = .ok (.iaload, 1) := by decide +kernel
theorem dX1_wo_11 : decode cX1_wo 11 = .ok (.ireturn, 1) := by decide +kernel
theorem dX1_base_0 : decode cX1_base 0 = .ok (.bipush 6, 2) := by decide +kernel
theorem dX1_base_2 : decode cX1_base 2 = .ok (.bipush 10, 2) := by decide +kernel
theorem dX1_base_4 : decode cX1_base 4 = .ok (.iload_n 1, 1) := by decide +kernel
theorem dX1_base_5 : decode cX1_base 5 = .ok (.imul, 1) := by decide +kernel
theorem dX1_base_6 : decode cX1_base 6 = .ok (.iload_n 2, 1) := by decide +kernel
theorem dX1_base_7 : decode cX1_base 7 = .ok (.iadd, 1) := by decide +kernel
theorem dX1_base_8 : decode cX1_base 8 = .ok (.imul, 1) := by decide +kernel
theorem dX1_base_9 : decode cX1_base 9 = .ok (.ireturn, 1) := by decide +kernel
set_option maxRecDepth 20000 in
theorem ggX1_add_X1_isLine : GoodIn wsX1_add wsX1_isLine := goodIn_r _ [9, 10, 11, 12, 8, 13, 28, 29, 30, 31, 32, 33] (by decide +kernel) (by decide +kernel)
set_option maxRecDepth 20000 in
theorem gX1_add_X1_isLine : GoodIn wsX1_add (wsV RX1 58 RX1 yX1_isLine wsX1_isLine) := goodIn_app (goodIn_of _ (by decide +kernel)) ggX1_add_X1_isLine
set_option maxRecDepth 20000 in
theorem ggX1_add_X1_fail : GoodIn wsX1_add wsX1_fail := goodIn_r _ [17, 1, 28, 29, 30, 31, 32, 33] (by decide +kernel) (by decide +kernel)
set_option maxRecDepth 20000 in
theorem gX1_add_X1_fail : GoodIn wsX1_add (wsV RX1 31 RX1 yX1_fail wsX1_fail) := goodIn_app (goodIn_of _ (by decide +kernel)) ggX1_add_X1_fail
set_option maxRecDepth 20000 in
theorem ggX1_add_X1_isWord : GoodIn wsX1_add wsX1_isWord := goodIn_r _ [20, 21, 22, 8, 23] (by decide +kernel) (by decide +kernel)
set_option maxRecDepth 20000 in
theorem gX1_add_X1_isWord : GoodIn wsX1_add (va_wsS RX1 48 yX1_isWord wsX1_isWord) := goodIn_app (goodIn_of _ (by decide +kernel)) ggX1_add_X1_isWord
set_option maxRecDepth 20000 in
theorem ggX1_add_X1_base : GoodIn wsX1_add wsX1_base := goodIn_r _ [27] (by decide +kernel) (by decide +kernel)
set_option maxRecDepth 20000 in
theorem gX1_add_X1_base : GoodIn wsX1_add (wsV RX1 61 RX1 yX1_base wsX1_base) := goodIn_app (goodIn_of _ (by decide +kernel)) ggX1_add_X1_base
theorem dX1_add_0 : decode cX1_add 0 = .ok (.aload_n 0, 1) := by decide +kernel
theorem dX1_add_1 : decode cX1_add 1 = .ok (.iconst 0, 1) := by decide +kernel
theorem dX1_add_2 : decode cX1_add 2 = .ok (.putfield 20, 3) := by decide +kernel
theorem dX1_add_5 : decode cX1_add 5 = .ok (.aload_n 0, 1) := by decide +kernel
theorem dX1_add_6 : decode cX1_add 6 = .ok (.iload_n 1, 1) := by decide +kernel
theorem dX1_add_7 : decode cX1_add 7 = .ok (.invokevirtual 58, 3) := by decide +kernel
theorem dX1_add_10 : decode cX1_add 10 = .ok (.ifCond .ne 9, 3) := by decide +kernel
theorem dX1_add_13 : decode cX1_add 13 = .ok (.aload_n 0, 1) := by decide +kernel
theorem dX1_add_14 : decode cX1_add 14 = .ok (.iconst 1, 1) := by decide +kernel
theorem dX1_add_15 : decode cX1_add 15 = .ok (.invokevirtual 31, 3) := by decide +kernel
theorem dX1_add_18 : decode cX1_add 18 = .ok (.ireturn, 1) := by decide +kernel
theorem dX1_add_19 : decode cX1_add 19 = .ok (.iload_n 2, 1) := by decide +kernel
theorem dX1_add_20 : decode cX1_add 20 = .ok (.invokestatic 48, 3) := by decide +kernel
theorem dX1_add_23 : decode cX1_add 23 = .ok (.ifCond .ne 9, 3) := by decide +kernel
theorem dX1_add_26 : decode cX1_add 26 = .ok (.aload_n 0, 1) := by decide +kernel
theorem dX1_add_27 : decode cX1_add 27 = .ok (.iconst 2, 1) := by decide +kernel
theorem dX1_add_28 : decode cX1_add 28 = .ok (.invokevirtual 31, 3) := by decide +kernel
theorem dX1_add_31 : decode cX1_add 31 = .ok (.ireturn, 1) := by decide +kernel
theorem dX1_add_32 : decode cX1_add 32 = .ok (.aload_n 0, 1) := by decide +kernel
theorem dX1_add_33 : decode cX1_add 33 = .ok (.getfield 9, 3) := by decide +kernel
theorem dX1_add_36 : decode cX1_add 36 = .ok (.iload_n 1, 1) := by decide +kernel
theorem dX1_add_37 : decode cX1_add 37 = .ok (.iaload, 1) := by decide +kernel
theorem dX1_add_38 : decode cX1_add 38 = .ok (.bipush 10, 2) := by decide +kernel
theorem dX1_add_40 : decode cX1_add 40 = .ok (.if_icmp .ne 9, 3) := by decide +kernel
theorem dX1_add_43 : decode cX1_add 43 = .ok (.aload_n 0, 1) := by decide +kernel
theorem dX1_add_44 : decode cX1_add 44 = .ok (.iconst 3, 1) := by decide +kernel
theorem dX1_add_45 : decode cX1_add 45 = .ok (.invokevirtual 31, 3) := by decide +kernel
theorem dX1_add_48 : decode cX1_add 48 = .ok (.ireturn, 1) := by decide +kernel
theorem dX1_add_49 : decode cX1_add 49 = .ok (.aload_n 0, 1) := by decide +kernel
theorem dX1_add_50 : decode cX1_add 50 = .ok (.getfield 13, 3) := by decide +kernel
theorem dX1_add_53 : decode cX1_add 53 = .ok (.bipush 10, 2) := by decide +kernel
theorem dX1_add_55 : decode cX1_add 55 = .ok (.iload_n 1, 1) := by decide +kernel
theorem dX1_add_56 : decode cX1_add 56 = .ok (.imul, 1) := by decide +kernel
theorem dX1_add_57 : decode cX1_add 57 = .ok (.aload_n 0, 1) := by decide +kernel
theorem dX1_add_58 : decode cX1_add 58 = .ok (.getfield 9, 3) := by decide +kernel
theorem dX1_add_61 : decode cX1_add 61 = .ok (.iload_n 1, 1) := by decide +kernel
theorem dX1_add_62 : decode cX1_add 62 = .ok (.iaload, 1) := by decide +kernel
theorem dX1_add_63 : decode cX1_add 63 = .ok (.iadd, 1) := by decide +kernel
theorem dX1_add_64 : decode cX1_add 64 = .ok (.iload_n 2, 1) := by decide +kernel
theorem dX1_add_65 : decode cX1_add 65 = .ok (.iastore, 1) := by decide +kernel
theorem dX1_add_66 : decode cX1_add 66 = .ok (.iconst 0, 1) := by decide +kernel
theorem dX1_add_67 : decode cX1_add 67 = .ok (.istore_n 3, 1) := by decide +kernel
theorem dX1_add_68 : decode cX1_add 68 = .ok (.iload_n 3, 1) := by decide +kernel
theorem dX1_add_69 : decode cX1_add 69 = .ok (.bipush 6, 2) := by decide +kernel
theorem dX1_add_71 : decode cX1_add 71 = .ok (.if_icmp .ge 28, 3) := by decide +kernel
theorem dX1_add_74 : decode cX1_add 74 = .ok (.aload_n 0, 1) := by decide +kernel
theorem dX1_add_75 : decode cX1_add 75 = .ok (.getfield 16, 3) := by decide +kernel
theorem dX1_add_78 : decode cX1_add 78 = .ok (.aload_n 0, 1) := by decide +kernel
theorem dX1_add_79 : decode cX1_add 79 = .ok (.iload_n 1, 1) := by decide +kernel
theorem dX1_add_80 : decode cX1_add 80 = .ok (.aload_n 0, 1) := by decide +kernel
theorem dX1_add_81 : decode cX1_add 81 = .ok (.getfield 9, 3) := by decide +kernel
theorem dX1_add_84 : decode cX1_add 84 = .ok (.iload_n 1, 1) := by decide +kernel
theorem dX1_add_85 : decode cX1_add 85 = .ok (.iaload, 1) := by decide +kernel
theorem dX1_add_86 : decode cX1_add 86 = .ok (.invokevirtual 61, 3) := by decide +kernel
theorem dX1_add_89 : decode cX1_add 89 = .ok (.iload_n 3, 1) := by decide +kernel
theorem dX1_add_90 : decode cX1_add 90 = .ok (.iadd, 1) := by decide +kernel
theorem dX1_add_91 : decode cX1_add 91 = .ok (.iconst 0, 1) := by decide +kernel
theorem dX1_add_92 : decode cX1_add 92 = .ok (.bastore, 1) := by decide +kernel
theorem dX1_add_93 : decode cX1_add 93 = .ok (.iinc 3 1, 3) := by decide +kernel
theorem dX1_add_96 : decode cX1_add 96 = .ok (.goto (-28), 3) := by decide +kernel
theorem dX1_add_99 : decode cX1_add 99 = .ok (.aload_n 0, 1) := by decide +kernel
theorem dX1_add_100 : decode cX1_add 100 = .ok (.getfield 9, 3) := by decide +kernel
theorem dX1_add_103 : decode cX1_add 103 = .ok (.iload_n 1, 1) := by decide +kernel
theorem dX1_add_104 : decode cX1_add 104 = .ok (.dup2, 1) := by decide +kernel
theorem dX1_add_105 : decode cX1_add 105 = .ok (.iaload, 1) := by decide +kernel
theorem dX1_add_106 : decode cX1_add 106 = .ok (.iconst 1, 1) := by decide +kernel
theorem dX1_add_107 : decode cX1_add 107 = .ok (.iadd, 1) := by decide +kernel
theorem dX1_add_108 : decode cX1_add 108 = .ok (.iastore, 1) := by decide +kernel
theorem dX1_add_109 : decode cX1_add 109 = .ok (.aload_n 0, 1) := by decide +kernel
theorem dX1_add_110 : decode cX1_add 110 = .ok (.getfield 9, 3) := by decide +kernel
theorem dX1_add_113 : decode cX1_add 113 = .ok (.iload_n 1, 1) := by decide +kernel
theorem dX1_add_114 : decode cX1_add 114 = .ok (.iaload, 1) := by decide +kernel
theorem dX1_add_115 : decode cX1_add 115 = .ok (.ireturn, 1) := by decide +kernel
set_option maxRecDepth 20000 in
theorem ggX1_cut_X1_isLine : GoodIn wsX1_cut wsX1_isLine := goodIn_r _ [7, 8, 9, 10, 6, 11, 21, 22, 23, 24, 25, 26] (by decide +kernel) (by decide +kernel)
set_option maxRecDepth 20000 in
theorem gX1_cut_X1_isLine : GoodIn wsX1_cut (wsV RX1 58 RX1 yX1_isLine wsX1_isLine) := goodIn_app (goodIn_of _ (by decide +kernel)) ggX1_cut_X1_isLine
set_option maxRecDepth 20000 in
theorem ggX1_cut_X1_fail : GoodIn wsX1_cut wsX1_fail := goodIn_r _ [15, 1, 21, 22, 23, 24, 25, 26] (by decide +kernel) (by decide +kernel)
set_option maxRecDepth 20000 in
theorem gX1_cut_X1_fail : GoodIn wsX1_cut (wsV RX1 31 RX1 yX1_fail wsX1_fail) := goodIn_app (goodIn_of _ (by decide +kernel)) ggX1_cut_X1_fail
set_option maxRecDepth 20000 in
theorem ggX1_cut_X1_wo : GoodIn wsX1_cut wsX1_wo := goodIn_r _ [19, 20, 21, 22, 23, 24, 25, 26] (by decide +kernel) (by decide +kernel)
set_option maxRecDepth 20000 in
theorem gX1_cut_X1_wo : GoodIn wsX1_cut (wsV RX1 64 RX1 yX1_wo wsX1_wo) := goodIn_app (goodIn_of _ (by decide +kernel)) ggX1_cut_X1_wo
theorem dX1_cut_0 : decode cX1_cut 0 = .ok (.aload_n 0, 1) := by decide +kernel
theorem dX1_cut_1 : decode cX1_cut 1 = .ok (.iconst 0, 1) := by decide +kernel
theorem dX1_cut_2 : decode cX1_cut 2 = .ok (.putfield 20, 3) := by decide +kernel
theorem dX1_cut_5 : decode cX1_cut 5 = .ok (.aload_n 0, 1) := by decide +kernel
theorem dX1_cut_6 : decode cX1_cut 6 = .ok (.iload_n 1, 1) := by decide +kernel
theorem dX1_cut_7 : decode cX1_cut 7 = .ok (.invokevirtual 58, 3) := by decide +kernel
theorem dX1_cut_10 : decode cX1_cut 10 = .ok (.ifCond .ne 9, 3) := by decide +kernel
theorem dX1_cut_13 : decode cX1_cut 13 = .ok (.aload_n 0, 1) := by decide +kernel
theorem dX1_cut_14 : decode cX1_cut 14 = .ok (.iconst 1, 1) := by decide +kernel
theorem dX1_cut_15 : decode cX1_cut 15 = .ok (.invokevirtual 31, 3) := by decide +kernel
theorem dX1_cut_18 : decode cX1_cut 18 = .ok (.ireturn, 1) := by decide +kernel
theorem dX1_cut_19 : decode cX1_cut 19 = .ok (.aload_n 0, 1) := by decide +kernel
theorem dX1_cut_20 : decode cX1_cut 20 = .ok (.getfield 9, 3) := by decide +kernel
theorem dX1_cut_23 : decode cX1_cut 23 = .ok (.iload_n 1, 1) := by decide +kernel
theorem dX1_cut_24 : decode cX1_cut 24 = .ok (.iaload, 1) := by decide +kernel
theorem dX1_cut_25 : decode cX1_cut 25 = .ok (.ifCond .ne 9, 3) := by decide +kernel
theorem dX1_cut_28 : decode cX1_cut 28 = .ok (.aload_n 0, 1) := by decide +kernel
theorem dX1_cut_29 : decode cX1_cut 29 = .ok (.iconst 2, 1) := by decide +kernel
theorem dX1_cut_30 : decode cX1_cut 30 = .ok (.invokevirtual 31, 3) := by decide +kernel
theorem dX1_cut_33 : decode cX1_cut 33 = .ok (.ireturn, 1) := by decide +kernel
theorem dX1_cut_34 : decode cX1_cut 34 = .ok (.aload_n 0, 1) := by decide +kernel
theorem dX1_cut_35 : decode cX1_cut 35 = .ok (.getfield 9, 3) := by decide +kernel
theorem dX1_cut_38 : decode cX1_cut 38 = .ok (.iload_n 1, 1) := by decide +kernel
theorem dX1_cut_39 : decode cX1_cut 39 = .ok (.dup2, 1) := by decide +kernel
theorem dX1_cut_40 : decode cX1_cut 40 = .ok (.iaload, 1) := by decide +kernel
theorem dX1_cut_41 : decode cX1_cut 41 = .ok (.iconst 1, 1) := by decide +kernel
theorem dX1_cut_42 : decode cX1_cut 42 = .ok (.isub, 1) := by decide +kernel
theorem dX1_cut_43 : decode cX1_cut 43 = .ok (.iastore, 1) := by decide +kernel
theorem dX1_cut_44 : decode cX1_cut 44 = .ok (.aload_n 0, 1) := by decide +kernel
theorem dX1_cut_45 : decode cX1_cut 45 = .ok (.iload_n 1, 1) := by decide +kernel
theorem dX1_cut_46 : decode cX1_cut 46 = .ok (.aload_n 0, 1) := by decide +kernel
theorem dX1_cut_47 : decode cX1_cut 47 = .ok (.getfield 9, 3) := by decide +kernel
theorem dX1_cut_50 : decode cX1_cut 50 = .ok (.iload_n 1, 1) := by decide +kernel
theorem dX1_cut_51 : decode cX1_cut 51 = .ok (.iaload, 1) := by decide +kernel
theorem dX1_cut_52 : decode cX1_cut 52 = .ok (.invokevirtual 64, 3) := by decide +kernel
theorem dX1_cut_55 : decode cX1_cut 55 = .ok (.ireturn, 1) := by decide +kernel
set_option maxRecDepth 20000 in
theorem ggX1_isOne_X1_isLine : GoodIn wsX1_isOne wsX1_isLine := goodIn_r _ [6, 7, 8, 9, 5, 10, 11, 12, 13, 14, 15, 16] (by decide +kernel) (by decide +kernel)
set_option maxRecDepth 20000 in
theorem gX1_isOne_X1_isLine : GoodIn wsX1_isOne (wsV RX1 58 RX1 yX1_isLine wsX1_isLine) := goodIn_app (goodIn_of _ (by decide +kernel)) ggX1_isOne_X1_isLine
set_option maxRecDepth 20000 in
theorem ggX1_isOne_X1_isIn : GoodIn wsX1_isOne wsX1_isIn := goodIn_r _ [10] (by decide +kernel) (by decide +kernel)
set_option maxRecDepth 20000 in
theorem gX1_isOne_X1_isIn : GoodIn wsX1_isOne (va_wsS RX1 27 yX1_isIn wsX1_isIn) := goodIn_app (goodIn_of _ (by decide +kernel)) ggX1_isOne_X1_isIn
theorem dX1_isOne_0 : decode cX1_isOne 0 = .ok (.aload_n 0, 1) := by decide +kernel
theorem dX1_isOne_1 : decode cX1_isOne 1 = .ok (.iload_n 1, 1) := by decide +kernel
theorem dX1_isOne_2 : decode cX1_isOne 2 = .ok (.invokevirtual 58, 3) := by decide +kernel
theorem dX1_isOne_5 : decode cX1_isOne 5 = .ok (.ifCond .eq 23, 3) := by decide +kernel
theorem dX1_isOne_8 : decode cX1_isOne 8 = .ok (.iload_n 2, 1) := by decide +kernel
theorem dX1_isOne_9 : decode cX1_isOne 9 = .ok (.iconst 0, 1) := by decide +kernel
theorem dX1_isOne_10 : decode cX1_isOne 10 = .ok (.aload_n 0, 1) := by decide +kernel
theorem dX1_isOne_11 : decode cX1_isOne 11 = .ok (.getfield 9, 3) := by decide +kernel
theorem dX1_isOne_14 : decode cX1_isOne 14 = .ok (.iload_n 1, 1) := by decide +kernel
theorem dX1_isOne_15 : decode cX1_isOne 15 = .ok (.iaload, 1) := by decide +kernel
theorem dX1_isOne_16 : decode cX1_isOne 16 = .ok (.iconst 1, 1) := by decide +kernel
theorem dX1_isOne_17 : decode cX1_isOne 17 = .ok (.isub, 1) := by decide +kernel
theorem dX1_isOne_18 : decode cX1_isOne 18 = .ok (.invokestatic 27, 3) := by decide +kernel
theorem dX1_isOne_21 : decode cX1_isOne 21 = .ok (.ifCond .eq 7, 3) := by decide +kernel
theorem dX1_isOne_24 : decode cX1_isOne 24 = .ok (.iconst 1, 1) := by decide +kernel
theorem dX1_isOne_25 : decode cX1_isOne 25 = .ok (.goto 4, 3) := by decide +kernel
theorem dX1_isOne_28 : decode cX1_isOne 28 = .ok (.iconst 0, 1) := by decide +kernel
theorem dX1_isOne_29 : decode cX1_isOne 29 = .ok (.ireturn, 1) := by decide +kernel
set_option maxRecDepth 20000 in
theorem ggX1_mark_X1_isOne : GoodIn wsX1_mark wsX1_isOne := goodIn_r _ [7, 8, 9, 10, 11, 6, 12, 13, 14, 15, 16, 29, 30, 31, 32, 33, 34] (by decide +kernel) (by decide +kernel)
set_option maxRecDepth 20000 in
theorem gX1_mark_X1_isOne : GoodIn wsX1_mark (wsV RX1 67 RX1 yX1_isOne wsX1_isOne) := goodIn_app (goodIn_of _ (by decide +kernel)) ggX1_mark_X1_isOne
set_option maxRecDepth 20000 in
theorem ggX1_mark_X1_wo : GoodIn wsX1_mark wsX1_wo := goodIn_r _ [20, 21, 29, 30, 31, 32, 33, 34] (by decide +kernel) (by decide +kernel)
set_option maxRecDepth 20000 in
theorem gX1_mark_X1_wo : GoodIn wsX1_mark (wsV RX1 64 RX1 yX1_wo wsX1_wo) := goodIn_app (goodIn_of _ (by decide +kernel)) ggX1_mark_X1_wo
set_option maxRecDepth 20000 in
theorem ggX1_mark_X1_size : GoodIn wsX1_mark wsX1_size := goodIn_r _ [24] (by decide +kernel) (by decide +kernel)
set_option maxRecDepth 20000 in
theorem gX1_mark_X1_size : GoodIn wsX1_mark (va_wsS RX1 41 yX1_size wsX1_size) := goodIn_app (goodIn_of _ (by decide +kernel)) ggX1_mark_X1_size
set_option maxRecDepth 20000 in
theorem ggX1_mark_X1_isIn : GoodIn wsX1_mark wsX1_isIn := goodIn_r _ [16] (by decide +kernel) (by decide +kernel)
set_option maxRecDepth 20000 in
theorem gX1_mark_X1_isIn : GoodIn wsX1_mark (va_wsS RX1 27 yX1_isIn wsX1_isIn) := goodIn_app (goodIn_of _ (by decide +kernel)) ggX1_mark_X1_isIn
set_option maxRecDepth 20000 in
theorem ggX1_mark_X1_base : GoodIn wsX1_mark wsX1_base := goodIn_r _ [28] (by decide +kernel) (by decide +kernel)
set_option maxRecDepth 20000 in
theorem gX1_mark_X1_base : GoodIn wsX1_mark (wsV RX1 61 RX1 yX1_base wsX1_base) := goodIn_app (goodIn_of _ (by decide +kernel)) ggX1_mark_X1_base
theorem dX1_mark_0 : decode cX1_mark 0 = .ok (.aload_n 0, 1) := by decide +kernel
theorem dX1_mark_1 : decode cX1_mark 1 = .ok (.aload_n 0, 1) := by decide +kernel
theorem dX1_mark_2 : decode cX1_mark 2 = .ok (.iload_n 1, 1) := by decide +kernel
theorem dX1_mark_3 : decode cX1_mark 3 = .ok (.iload_n 2, 1) := by decide +kernel
theorem dX1_mark_4 : decode cX1_mark 4 = .ok (.invokevirtual 67, 3) := by decide +kernel
theorem dX1_mark_7 : decode cX1_mark 7 = .ok (.ifCond .eq 26, 3) := by decide +kernel
theorem dX1_mark_10 : decode cX1_mark 10 = .ok (.iload_n 3, 1) := by decide +kernel
theorem dX1_mark_11 : decode cX1_mark 11 = .ok (.iconst 0, 1) := by decide +kernel
theorem dX1_mark_12 : decode cX1_mark 12 = .ok (.aload_n 0, 1) := by decide +kernel
theorem dX1_mark_13 : decode cX1_mark 13 = .ok (.iload_n 1, 1) := by decide +kernel
theorem dX1_mark_14 : decode cX1_mark 14 = .ok (.iload_n 2, 1) := by decide +kernel
theorem dX1_mark_15 : decode cX1_mark 15 = .ok (.invokevirtual 64, 3) := by decide +kernel
theorem dX1_mark_18 : decode cX1_mark 18 = .ok (.invokestatic 41, 3) := by decide +kernel
theorem dX1_mark_21 : decode cX1_mark 21 = .ok (.iconst 1, 1) := by decide +kernel
theorem dX1_mark_22 : decode cX1_mark 22 = .ok (.isub, 1) := by decide +kernel
theorem dX1_mark_23 : decode cX1_mark 23 = .ok (.invokestatic 27, 3) := by decide +kernel
theorem dX1_mark_26 : decode cX1_mark 26 = .ok (.ifCond .eq 7, 3) := by decide +kernel
theorem dX1_mark_29 : decode cX1_mark 29 = .ok (.iconst 0, 1) := by decide +kernel
theorem dX1_mark_30 : decode cX1_mark 30 = .ok (.goto 4, 3) := by decide +kernel
theorem dX1_mark_33 : decode cX1_mark 33 = .ok (.iconst 1, 1) := by decide +kernel
theorem dX1_mark_34 : decode cX1_mark 34 = .ok (.putfield 20, 3) := by decide +kernel
theorem dX1_mark_37 : decode cX1_mark 37 = .ok (.aload_n 0, 1) := by decide +kernel
theorem dX1_mark_38 : decode cX1_mark 38 = .ok (.getfield 20, 3) := by decide +kernel
theorem dX1_mark_41 : decode cX1_mark 41 = .ok (.ifCond .eq 5, 3) := by decide +kernel
theorem dX1_mark_44 : decode cX1_mark 44 = .ok (.iconst 0, 1) := by decide +kernel
theorem dX1_mark_45 : decode cX1_mark 45 = .ok (.ireturn, 1) := by decide +kernel
theorem dX1_mark_46 : decode cX1_mark 46 = .ok (.aload_n 0, 1) := by decide +kernel
theorem dX1_mark_47 : decode cX1_mark 47 = .ok (.iload_n 1, 1) := by decide +kernel
theorem dX1_mark_48 : decode cX1_mark 48 = .ok (.iload_n 2, 1) := by decide +kernel
theorem dX1_mark_49 : decode cX1_mark 49 = .ok (.invokevirtual 61, 3) := by decide +kernel
theorem dX1_mark_52 : decode cX1_mark 52 = .ok (.iload_n 3, 1) := by decide +kernel
theorem dX1_mark_53 : decode cX1_mark 53 = .ok (.iadd, 1) := by decide +kernel
theorem dX1_mark_54 : decode cX1_mark 54 = .ok (.istore 4, 2) := by decide +kernel
theorem dX1_mark_56 : decode cX1_mark 56 = .ok (.aload_n 0, 1) := by decide +kernel
theorem dX1_mark_57 : decode cX1_mark 57 = .ok (.getfield 16, 3) := by decide +kernel
theorem dX1_mark_60 : decode cX1_mark 60 = .ok (.iload 4, 2) := by decide +kernel
theorem dX1_mark_62 : decode cX1_mark 62 = .ok (.aload_n 0, 1) := by decide +kernel
theorem dX1_mark_63 : decode cX1_mark 63 = .ok (.getfield 16, 3) := by decide +kernel
theorem dX1_mark_66 : decode cX1_mark 66 = .ok (.iload 4, 2) := by decide +kernel
theorem dX1_mark_68 : decode cX1_mark 68 = .ok (.baload, 1) := by decide +kernel
theorem dX1_mark_69 : decode cX1_mark 69 = .ok (.ifCond .ne 7, 3) := by decide +kernel
theorem dX1_mark_72 : decode cX1_mark 72 = .ok (.iconst 1, 1) := by decide +kernel
theorem dX1_mark_73 : decode cX1_mark 73 = .ok (.goto 4, 3) := by decide +kernel
theorem dX1_mark_76 : decode cX1_mark 76 = .ok (.iconst 0, 1) := by decide +kernel
theorem dX1_mark_77 : decode cX1_mark 77 = .ok (.bastore, 1) := by decide +kernel
theorem dX1_mark_78 : decode cX1_mark 78 = .ok (.aload_n 0, 1) := by decide +kernel
theorem dX1_mark_79 : decode cX1_mark 79 = .ok (.getfield 16, 3) := by decide +kernel
theorem dX1_mark_82 : decode cX1_mark 82 = .ok (.iload 4, 2) := by decide +kernel
theorem dX1_mark_84 : decode cX1_mark 84 = .ok (.baload, 1) := by decide +kernel
theorem dX1_mark_85 : decode cX1_mark 85 = .ok (.ireturn, 1) := by decide +kernel
set_option maxRecDepth 20000 in
theorem ggX1_wordTold_X1_wo : GoodIn wsX1_wordTold wsX1_wo := goodIn_r _ [6, 7, 27, 28, 29, 30, 31, 32] (by decide +kernel) (by decide +kernel)
set_option maxRecDepth 20000 in
theorem gX1_wordTold_X1_wo : GoodIn wsX1_wordTold (wsV RX1 64 RX1 yX1_wo wsX1_wo) := goodIn_app (goodIn_of _ (by decide +kernel)) ggX1_wordTold_X1_wo
set_option maxRecDepth 20000 in
theorem ggX1_wordTold_X1_size : GoodIn wsX1_wordTold wsX1_size := goodIn_r _ [10] (by decide +kernel) (by decide +kernel)
set_option maxRecDepth 20000 in
theorem gX1_wordTold_X1_size : GoodIn wsX1_wordTold (va_wsS RX1 41 yX1_size wsX1_size) := goodIn_app (goodIn_of _ (by decide +kernel)) ggX1_wordTold_X1_size
set_option maxRecDepth 20000 in
theorem ggX1_wordTold_X1_sum : GoodIn wsX1_wordTold wsX1_sum := goodIn_r _ [14, 8, 9, 5, 10, 15, 16, 17, 18, 19, 20, 21, 22, 27, 28, 29, 30, 31, 32] (by decide +kernel) (by decide +kernel)
set_option maxRecDepth 20000 in
theorem gX1_wordTold_X1_sum : GoodIn wsX1_wordTold (wsV RX1 52 RX1 yX1_sum wsX1_sum) := goodIn_app (goodIn_of _ (by decide +kernel)) ggX1_wordTold_X1_sum
set_option maxRecDepth 20000 in
theorem ggX1_wordTold_X1_base : GoodIn wsX1_wordTold wsX1_base := goodIn_r _ [26] (by decide +kernel) (by decide +kernel)
set_option maxRecDepth 20000 in
theorem gX1_wordTold_X1_base : GoodIn wsX1_wordTold (wsV RX1 61 RX1 yX1_base wsX1_base) := goodIn_app (goodIn_of _ (by decide +kernel)) ggX1_wordTold_X1_base
set_option maxRecDepth 20000 in
theorem ggX1_wordTold_X1_at : GoodIn wsX1_wordTold wsX1_at := goodIn_r _ [17, 8, 9, 5, 10] (by decide +kernel) (by decide +kernel)
set_option maxRecDepth 20000 in
theorem gX1_wordTold_X1_at : GoodIn wsX1_wordTold (va_wsS RX1 44 yX1_at wsX1_at) := goodIn_app (goodIn_of _ (by decide +kernel)) ggX1_wordTold_X1_at
set_option maxRecDepth 20000 in
theorem ggX1_wordTold_X1_valueOf : GoodIn wsX1_wordTold wsX1_valueOf := goodIn_r _ [21, 22, 27, 28, 29, 30, 31, 32] (by decide +kernel) (by decide +kernel)
set_option maxRecDepth 20000 in
theorem gX1_wordTold_X1_valueOf : GoodIn wsX1_wordTold (wsV RX1 38 RX1 yX1_valueOf wsX1_valueOf) := goodIn_app (goodIn_of _ (by decide +kernel)) ggX1_wordTold_X1_valueOf
theorem dX1_wordTold_0 : decode cX1_wordTold 0 = .ok (.aload_n 0, 1) := by decide +kernel
theorem dX1_wordTold_1 : decode cX1_wordTold 1 = .ok (.iload_n 1, 1) := by decide +kernel
theorem dX1_wordTold_2 : decode cX1_wordTold 2 = .ok (.iload_n 2, 1) := by decide +kernel
theorem dX1_wordTold_3 : decode cX1_wordTold 3 = .ok (.invokevirtual 64, 3) := by decide +kernel
theorem dX1_wordTold_6 : decode cX1_wordTold 6 = .ok (.istore 4, 2) := by decide +kernel
theorem dX1_wordTold_8 : decode cX1_wordTold 8 = .ok (.iconst 0, 1) := by decide +kernel
theorem dX1_wordTold_9 : decode cX1_wordTold 9 = .ok (.istore 5, 2) := by decide +kernel
theorem dX1_wordTold_11 : decode cX1_wordTold 11 = .ok (.iload_n 3, 1) := by decide +kernel
theorem dX1_wordTold_12 : decode cX1_wordTold 12 = .ok (.tableswitch 44 0 2 #[28, 31, 37], 28) := by decide +kernel
theorem dX1_wordTold_40 : decode cX1_wordTold 40 = .ok (.iload 4, 2) := by decide +kernel
theorem dX1_wordTold_42 : decode cX1_wordTold 42 = .ok (.ireturn, 1) := by decide +kernel
theorem dX1_wordTold_43 : decode cX1_wordTold 43 = .ok (.iload 4, 2) := by decide +kernel
theorem dX1_wordTold_45 : decode cX1_wordTold 45 = .ok (.invokestatic 41, 3) := by decide +kernel
theorem dX1_wordTold_48 : decode cX1_wordTold 48 = .ok (.ireturn, 1) := by decide +kernel
theorem dX1_wordTold_49 : decode cX1_wordTold 49 = .ok (.aload_n 0, 1) := by decide +kernel
theorem dX1_wordTold_50 : decode cX1_wordTold 50 = .ok (.iload 4, 2) := by decide +kernel
theorem dX1_wordTold_52 : decode cX1_wordTold 52 = .ok (.invokevirtual 52, 3) := by decide +kernel
theorem dX1_wordTold_55 : decode cX1_wordTold 55 = .ok (.ireturn, 1) := by decide +kernel
theorem dX1_wordTold_56 : decode cX1_wordTold 56 = .ok (.iconst 0, 1) := by decide +kernel
theorem dX1_wordTold_57 : decode cX1_wordTold 57 = .ok (.istore 6, 2) := by decide +kernel
theorem dX1_wordTold_59 : decode cX1_wordTold 59 = .ok (.iload 6, 2) := by decide +kernel
theorem dX1_wordTold_61 : decode cX1_wordTold 61 = .ok (.iload 4, 2) := by decide +kernel
theorem dX1_wordTold_63 : decode cX1_wordTold 63 = .ok (.invokestatic 41, 3) := by decide +kernel
theorem dX1_wordTold_66 : decode cX1_wordTold 66 = .ok (.if_icmp .ge 51, 3) := by decide +kernel
theorem dX1_wordTold_69 : decode cX1_wordTold 69 = .ok (.aload_n 0, 1) := by decide +kernel
theorem dX1_wordTold_70 : decode cX1_wordTold 70 = .ok (.getfield 16, 3) := by decide +kernel
theorem dX1_wordTold_73 : decode cX1_wordTold 73 = .ok (.aload_n 0, 1) := by decide +kernel
theorem dX1_wordTold_74 : decode cX1_wordTold 74 = .ok (.iload_n 1, 1) := by decide +kernel
theorem dX1_wordTold_75 : decode cX1_wordTold 75 = .ok (.iload_n 2, 1) := by decide +kernel
theorem dX1_wordTold_76 : decode cX1_wordTold 76 = .ok (.invokevirtual 61, 3) := by decide +kernel
theorem dX1_wordTold_79 : decode cX1_wordTold 79 = .ok (.iload 6, 2) := by decide +kernel
theorem dX1_wordTold_81 : decode cX1_wordTold 81 = .ok (.iadd, 1) := by decide +kernel
theorem dX1_wordTold_82 : decode cX1_wordTold 82 = .ok (.baload, 1) := by decide +kernel
theorem dX1_wordTold_83 : decode cX1_wordTold 83 = .ok (.ifCond .eq 28, 3) := by decide +kernel
theorem dX1_wordTold_86 : decode cX1_wordTold 86 = .ok (.iload 5, 2) := by decide +kernel
theorem dX1_wordTold_88 : decode cX1_wordTold 88 = .ok (.iload_n 3, 1) := by decide +kernel
theorem dX1_wordTold_89 : decode cX1_wordTold 89 = .ok (.iconst 3, 1) := by decide +kernel
theorem dX1_wordTold_90 : decode cX1_wordTold 90 = .ok (.if_icmp .ne 7, 3) := by decide +kernel
theorem dX1_wordTold_93 : decode cX1_wordTold 93 = .ok (.iconst 1, 1) := by decide +kernel
theorem dX1_wordTold_94 : decode cX1_wordTold 94 = .ok (.goto 14, 3) := by decide +kernel
theorem dX1_wordTold_97 : decode cX1_wordTold 97 = .ok (.aload_n 0, 1) := by decide +kernel
theorem dX1_wordTold_98 : decode cX1_wordTold 98 = .ok (.iload 4, 2) := by decide +kernel
theorem dX1_wordTold_100 : decode cX1_wordTold 100 = .ok (.iload 6, 2) := by decide +kernel
theorem dX1_wordTold_102 : decode cX1_wordTold 102 = .ok (.invokestatic 44, 3) := by decide +kernel
theorem dX1_wordTold_105 : decode cX1_wordTold 105 = .ok (.invokevirtual 38, 3) := by decide +kernel
theorem dX1_wordTold_108 : decode cX1_wordTold 108 = .ok (.iadd, 1) := by decide +kernel
theorem dX1_wordTold_109 : decode cX1_wordTold 109 = .ok (.istore 5, 2) := by decide +kernel
theorem dX1_wordTold_111 : decode cX1_wordTold 111 = .ok (.iinc 6 1, 3) := by decide +kernel
theorem dX1_wordTold_114 : decode cX1_wordTold 114 = .ok (.goto (-55), 3) := by decide +kernel
theorem dX1_wordTold_117 : decode cX1_wordTold 117 = .ok (.iload 5, 2) := by decide +kernel
theorem dX1_wordTold_119 : decode cX1_wordTold 119 = .ok (.ireturn, 1) := by decide +kernel
set_option maxRecDepth 20000 in
theorem ggX1_word_X1_isOne : GoodIn wsX1_word wsX1_isOne := goodIn_r _ [6, 7, 8, 9, 10, 5, 11, 12, 13, 14, 15, 49, 50, 51, 52, 53, 54] (by decide +kernel) (by decide +kernel)
set_option maxRecDepth 20000 in
theorem gX1_word_X1_isOne : GoodIn wsX1_word (wsV RX1 67 RX1 yX1_isOne wsX1_isOne) := goodIn_app (goodIn_of _ (by decide +kernel)) ggX1_word_X1_isOne
set_option maxRecDepth 20000 in
theorem ggX1_word_X1_isIn : GoodIn wsX1_word wsX1_isIn := goodIn_r _ [15] (by decide +kernel) (by decide +kernel)
set_option maxRecDepth 20000 in
theorem gX1_word_X1_isIn : GoodIn wsX1_word (va_wsS RX1 27 yX1_isIn wsX1_isIn) := goodIn_app (goodIn_of _ (by decide +kernel)) ggX1_word_X1_isIn
set_option maxRecDepth 20000 in
theorem ggX1_word_X1_wordTold : GoodIn wsX1_word wsX1_wordTold := goodIn_r _ [19, 20, 21, 22, 23, 5, 24, 25, 26, 27, 28, 29, 30, 31, 32, 33, 34, 35, 36, 37, 38, 39, 40, 41, 42, 43, 44, 49, 50, 51, 52, 53, 54] (by decide +kernel) (by decide +kernel)
set_option maxRecDepth 20000 in
theorem gX1_word_X1_wordTold : GoodIn wsX1_word (wsV RX1 71 RX1 yX1_wordTold wsX1_wordTold) := goodIn_app (goodIn_of _ (by decide +kernel)) ggX1_word_X1_wordTold
set_option maxRecDepth 20000 in
theorem ggX1_word_X1_fail : GoodIn wsX1_word wsX1_fail := goodIn_r _ [48, 1, 49, 50, 51, 52, 53, 54] (by decide +kernel) (by decide +kernel)
set_option maxRecDepth 20000 in
theorem gX1_word_X1_fail : GoodIn wsX1_word (wsV RX1 31 RX1 yX1_fail wsX1_fail) := goodIn_app (goodIn_of _ (by decide +kernel)) ggX1_word_X1_fail
theorem dX1_word_0 : decode cX1_word 0 = .ok (.aload_n 0, 1) := by decide +kernel
theorem dX1_word_1 : decode cX1_word 1 = .ok (.iconst 0, 1) := by decide +kernel
theorem dX1_word_2 : decode cX1_word 2 = .ok (.putfield 20, 3) := by decide +kernel
theorem dX1_word_5 : decode cX1_word 5 = .ok (.aload_n 0, 1) := by decide +kernel
theorem dX1_word_6 : decode cX1_word 6 = .ok (.iload_n 1, 1) := by decide +kernel
theorem dX1_word_7 : decode cX1_word 7 = .ok (.iload_n 2, 1) := by decide +kernel
theorem dX1_word_8 : decode cX1_word 8 = .ok (.invokevirtual 67, 3) := by decide +kernel
theorem dX1_word_11 : decode cX1_word 11 = .ok (.ifCond .eq 22, 3) := by decide +kernel
theorem dX1_word_14 : decode cX1_word 14 = .ok (.iload_n 3, 1) := by decide +kernel
theorem dX1_word_15 : decode cX1_word 15 = .ok (.iconst 0, 1) := by decide +kernel
theorem dX1_word_16 : decode cX1_word 16 = .ok (.iconst 4, 1) := by decide +kernel
theorem dX1_word_17 : decode cX1_word 17 = .ok (.invokestatic 27, 3) := by decide +kernel
theorem dX1_word_20 : decode cX1_word 20 = .ok (.ifCond .eq 13, 3) := by decide +kernel
theorem dX1_word_23 : decode cX1_word 23 = .ok (.aload_n 0, 1) := by decide +kernel
theorem dX1_word_24 : decode cX1_word 24 = .ok (.iload_n 1, 1) := by decide +kernel
theorem dX1_word_25 : decode cX1_word 25 = .ok (.iload_n 2, 1) := by decide +kernel
theorem dX1_word_26 : decode cX1_word 26 = .ok (.iload_n 3, 1) := by decide +kernel
theorem dX1_word_27 : decode cX1_word 27 = .ok (.invokevirtual 71, 3) := by decide +kernel
theorem dX1_word_30 : decode cX1_word 30 = .ok (.goto 8, 3) := by decide +kernel
theorem dX1_word_33 : decode cX1_word 33 = .ok (.aload_n 0, 1) := by decide +kernel
theorem dX1_word_34 : decode cX1_word 34 = .ok (.iconst 1, 1) := by decide +kernel
theorem dX1_word_35 : decode cX1_word 35 = .ok (.invokevirtual 31, 3) := by decide +kernel
theorem dX1_word_38 : decode cX1_word 38 = .ok (.ireturn, 1) := by decide +kernel
set_option maxRecDepth 20000 in
theorem ggX1_lineTold_X1_wordTold : GoodIn wsX1_lineTold wsX1_wordTold := goodIn_r _ [6, 7, 8, 9, 10, 5, 11, 12, 13, 14, 15, 16, 17, 18, 19, 20, 21, 22, 23, 24, 25, 26, 27, 28, 29, 30, 31, 32, 33, 34, 35, 36, 37] (by decide +kernel) (by decide +kernel)
set_option maxRecDepth 20000 in
theorem gX1_lineTold_X1_wordTold : GoodIn wsX1_lineTold (wsV RX1 71 RX1 yX1_wordTold wsX1_wordTold) := goodIn_app (goodIn_of _ (by decide +kernel)) ggX1_lineTold_X1_wordTold
theorem dX1_lineTold_0 : decode cX1_lineTold 0 = .ok (.iload_n 2, 1) := by decide +kernel
theorem dX1_lineTold_1 : decode cX1_lineTold 1 = .ok (.ifCond .ne 10, 3) := by decide +kernel
theorem dX1_lineTold_4 : decode cX1_lineTold 4 = .ok (.aload_n 0, 1) := by decide +kernel
theorem dX1_lineTold_5 : decode cX1_lineTold 5 = .ok (.getfield 9, 3) := by decide +kernel
theorem dX1_lineTold_8 : decode cX1_lineTold 8 = .ok (.iload_n 1, 1) := by decide +kernel
theorem dX1_lineTold_9 : decode cX1_lineTold 9 = .ok (.iaload, 1) := by decide +kernel
theorem dX1_lineTold_10 : decode cX1_lineTold 10 = .ok (.ireturn, 1) := by decide +kernel
theorem dX1_lineTold_11 : decode cX1_lineTold 11 = .ok (.iconst 0, 1) := by decide +kernel
theorem dX1_lineTold_12 : decode cX1_lineTold 12 = .ok (.istore_n 3, 1) := by decide +kernel
theorem dX1_lineTold_13 : decode cX1_lineTold 13 = .ok (.iconst 0, 1) := by decide +kernel
theorem dX1_lineTold_14 : decode cX1_lineTold 14 = .ok (.istore 4, 2) := by decide +kernel
theorem dX1_lineTold_16 : decode cX1_lineTold 16 = .ok (.iload 4, 2) := by decide +kernel
theorem dX1_lineTold_18 : decode cX1_lineTold 18 = .ok (.aload_n 0, 1) := by decide +kernel
theorem dX1_lineTold_19 : decode cX1_lineTold 19 = .ok (.getfield 9, 3) := by decide +kernel
theorem dX1_lineTold_22 : decode cX1_lineTold 22 = .ok (.iload_n 1, 1) := by decide +kernel
theorem dX1_lineTold_23 : decode cX1_lineTold 23 = .ok (.iaload, 1) := by decide +kernel
theorem dX1_lineTold_24 : decode cX1_lineTold 24 = .ok (.if_icmp .ge 20, 3) := by decide +kernel
theorem dX1_lineTold_27 : decode cX1_lineTold 27 = .ok (.iload_n 3, 1) := by decide +kernel
theorem dX1_lineTold_28 : decode cX1_lineTold 28 = .ok (.aload_n 0, 1) := by decide +kernel
theorem dX1_lineTold_29 : decode cX1_lineTold 29 = .ok (.iload_n 1, 1) := by decide +kernel
theorem dX1_lineTold_30 : decode cX1_lineTold 30 = .ok (.iload 4, 2) := by decide +kernel
theorem dX1_lineTold_32 : decode cX1_lineTold 32 = .ok (.iload_n 2, 1) := by decide +kernel
theorem dX1_lineTold_33 : decode cX1_lineTold 33 = .ok (.invokevirtual 71, 3) := by decide +kernel
theorem dX1_lineTold_36 : decode cX1_lineTold 36 = .ok (.iadd, 1) := by decide +kernel
theorem dX1_lineTold_37 : decode cX1_lineTold 37 = .ok (.istore_n 3, 1) := by decide +kernel
theorem dX1_lineTold_38 : decode cX1_lineTold 38 = .ok (.iinc 4 1, 3) := by decide +kernel
theorem dX1_lineTold_41 : decode cX1_lineTold 41 = .ok (.goto (-25), 3) := by decide +kernel
theorem dX1_lineTold_44 : decode cX1_lineTold 44 = .ok (.iload_n 3, 1) := by decide +kernel
theorem dX1_lineTold_45 : decode cX1_lineTold 45 = .ok (.ireturn, 1) := by decide +kernel
set_option maxRecDepth 20000 in
theorem ggX1_line_X1_isLine : GoodIn wsX1_line wsX1_isLine := goodIn_r _ [6, 7, 8, 9, 5, 10, 49, 50, 51, 52, 53, 54] (by decide +kernel) (by decide +kernel)
set_option maxRecDepth 20000 in
theorem gX1_line_X1_isLine : GoodIn wsX1_line (wsV RX1 58 RX1 yX1_isLine wsX1_isLine) := goodIn_app (goodIn_of _ (by decide +kernel)) ggX1_line_X1_isLine
set_option maxRecDepth 20000 in
theorem ggX1_line_X1_isIn : GoodIn wsX1_line wsX1_isIn := goodIn_r _ [10] (by decide +kernel) (by decide +kernel)
set_option maxRecDepth 20000 in
theorem gX1_line_X1_isIn : GoodIn wsX1_line (va_wsS RX1 27 yX1_isIn wsX1_isIn) := goodIn_app (goodIn_of _ (by decide +kernel)) ggX1_line_X1_isIn
set_option maxRecDepth 20000 in
theorem ggX1_line_X1_lineTold : GoodIn wsX1_line wsX1_lineTold := goodIn_r _ [14, 15, 16, 17, 18, 5, 19, 20, 21, 22, 23, 24, 25, 26, 27, 28, 29, 30, 31, 32, 33, 34, 35, 36, 37, 38, 39, 40, 41, 42, 43, 44, 49, 50, 51, 52, 53, 54] (by decide +kernel) (by decide +kernel)
set_option maxRecDepth 20000 in
theorem gX1_line_X1_lineTold : GoodIn wsX1_line (wsV RX1 75 RX1 yX1_lineTold wsX1_lineTold) := goodIn_app (goodIn_of _ (by decide +kernel)) ggX1_line_X1_lineTold
set_option maxRecDepth 20000 in
theorem ggX1_line_X1_fail : GoodIn wsX1_line wsX1_fail := goodIn_r _ [48, 1, 49, 50, 51, 52, 53, 54] (by decide +kernel) (by decide +kernel)
set_option maxRecDepth 20000 in
theorem gX1_line_X1_fail : GoodIn wsX1_line (wsV RX1 31 RX1 yX1_fail wsX1_fail) := goodIn_app (goodIn_of _ (by decide +kernel)) ggX1_line_X1_fail
theorem dX1_line_0 : decode cX1_line 0 = .ok (.aload_n 0, 1) := by decide +kernel
theorem dX1_line_1 : decode cX1_line 1 = .ok (.iconst 0, 1) := by decide +kernel
theorem dX1_line_2 : decode cX1_line 2 = .ok (.putfield 20, 3) := by decide +kernel
theorem dX1_line_5 : decode cX1_line 5 = .ok (.aload_n 0, 1) := by decide +kernel
theorem dX1_line_6 : decode cX1_line 6 = .ok (.iload_n 1, 1) := by decide +kernel
theorem dX1_line_7 : decode cX1_line 7 = .ok (.invokevirtual 58, 3) := by decide +kernel
theorem dX1_line_10 : decode cX1_line 10 = .ok (.ifCond .eq 21, 3) := by decide +kernel
theorem dX1_line_13 : decode cX1_line 13 = .ok (.iload_n 2, 1) := by decide +kernel
theorem dX1_line_14 : decode cX1_line 14 = .ok (.iconst 0, 1) := by decide +kernel
theorem dX1_line_15 : decode cX1_line 15 = .ok (.iconst 4, 1) := by decide +kernel
theorem dX1_line_16 : decode cX1_line 16 = .ok (.invokestatic 27, 3) := by decide +kernel
theorem dX1_line_19 : decode cX1_line 19 = .ok (.ifCond .eq 12, 3) := by decide +kernel
theorem dX1_line_22 : decode cX1_line 22 = .ok (.aload_n 0, 1) := by decide +kernel
theorem dX1_line_23 : decode cX1_line 23 = .ok (.iload_n 1, 1) := by decide +kernel
theorem dX1_line_24 : decode cX1_line 24 = .ok (.iload_n 2, 1) := by decide +kernel
theorem dX1_line_25 : decode cX1_line 25 = .ok (.invokevirtual 75, 3) := by decide +kernel
theorem dX1_line_28 : decode cX1_line 28 = .ok (.goto 8, 3) := by decide +kernel
theorem dX1_line_31 : decode cX1_line 31 = .ok (.aload_n 0, 1) := by decide +kernel
theorem dX1_line_32 : decode cX1_line 32 = .ok (.iconst 1, 1) := by decide +kernel
theorem dX1_line_33 : decode cX1_line 33 = .ok (.invokevirtual 31, 3) := by decide +kernel
theorem dX1_line_36 : decode cX1_line 36 = .ok (.ireturn, 1) := by decide +kernel
set_option maxRecDepth 20000 in
theorem ggX1_all_X1_lineTold : GoodIn wsX1_all wsX1_lineTold := goodIn_r _ [6, 7, 8, 9, 10, 5, 11, 12, 13, 14, 15, 16, 17, 18, 19, 20, 21, 22, 23, 24, 25, 26, 27, 28, 29, 30, 31, 32, 33, 34, 35, 36, 37, 38, 39, 40, 41, 42] (by decide +kernel) (by decide +kernel)
set_option maxRecDepth 20000 in
theorem gX1_all_X1_lineTold : GoodIn wsX1_all (wsV RX1 75 RX1 yX1_lineTold wsX1_lineTold) := goodIn_app (goodIn_of _ (by decide +kernel)) ggX1_all_X1_lineTold
theorem dX1_all_0 : decode cX1_all 0 = .ok (.iconst 0, 1) := by decide +kernel
theorem dX1_all_1 : decode cX1_all 1 = .ok (.istore_n 2, 1) := by decide +kernel
theorem dX1_all_2 : decode cX1_all 2 = .ok (.iconst 0, 1) := by decide +kernel
theorem dX1_all_3 : decode cX1_all 3 = .ok (.istore_n 3, 1) := by decide +kernel
theorem dX1_all_4 : decode cX1_all 4 = .ok (.iload_n 3, 1) := by decide +kernel
theorem dX1_all_5 : decode cX1_all 5 = .ok (.aload_n 0, 1) := by decide +kernel
theorem dX1_all_6 : decode cX1_all 6 = .ok (.getfield 24, 3) := by decide +kernel
theorem dX1_all_9 : decode cX1_all 9 = .ok (.if_icmp .ge 18, 3) := by decide +kernel
theorem dX1_all_12 : decode cX1_all 12 = .ok (.iload_n 2, 1) := by decide +kernel
theorem dX1_all_13 : decode cX1_all 13 = .ok (.aload_n 0, 1) := by decide +kernel
theorem dX1_all_14 : decode cX1_all 14 = .ok (.iload_n 3, 1) := by decide +kernel
theorem dX1_all_15 : decode cX1_all 15 = .ok (.iload_n 1, 1) := by decide +kernel
theorem dX1_all_16 : decode cX1_all 16 = .ok (.invokevirtual 75, 3) := by decide +kernel
theorem dX1_all_19 : decode cX1_all 19 = .ok (.iadd, 1) := by decide +kernel
theorem dX1_all_20 : decode cX1_all 20 = .ok (.istore_n 2, 1) := by decide +kernel
theorem dX1_all_21 : decode cX1_all 21 = .ok (.iinc 3 1, 3) := by decide +kernel
theorem dX1_all_24 : decode cX1_all 24 = .ok (.goto (-20), 3) := by decide +kernel
theorem dX1_all_27 : decode cX1_all 27 = .ok (.iload_n 2, 1) := by decide +kernel
theorem dX1_all_28 : decode cX1_all 28 = .ok (.ireturn, 1) := by decide +kernel
set_option maxRecDepth 20000 in
theorem ggX1_pairs_X1_isOne : GoodIn wsX1_pairs wsX1_isOne := goodIn_r _ [7, 8, 9, 10, 11, 6, 12, 1, 13, 14, 15, 31, 32, 33, 34, 35, 36] (by decide +kernel) (by decide +kernel)
set_option maxRecDepth 20000 in
theorem gX1_pairs_X1_isOne : GoodIn wsX1_pairs (wsV RX1 67 RX1 yX1_isOne wsX1_isOne) := goodIn_app (goodIn_of _ (by decide +kernel)) ggX1_pairs_X1_isOne
set_option maxRecDepth 20000 in
theorem ggX1_pairs_X1_sum : GoodIn wsX1_pairs wsX1_sum := goodIn_r _ [19, 20, 21, 6, 22, 23, 24, 25, 26, 27, 28, 29, 30, 31, 32, 33, 34, 35, 36] (by decide +kernel) (by decide +kernel)
set_option maxRecDepth 20000 in
theorem gX1_pairs_X1_sum : GoodIn wsX1_pairs (wsV RX1 52 RX1 yX1_sum wsX1_sum) := goodIn_app (goodIn_of _ (by decide +kernel)) ggX1_pairs_X1_sum
theorem dX1_pairs_0 : decode cX1_pairs 0 = .ok (.iconst 0, 1) := by decide +kernel
theorem dX1_pairs_1 : decode cX1_pairs 1 = .ok (.istore_n 1, 1) := by decide +kernel
theorem dX1_pairs_2 : decode cX1_pairs 2 = .ok (.iconst 0, 1) := by decide +kernel
theorem dX1_pairs_3 : decode cX1_pairs 3 = .ok (.istore_n 2, 1) := by decide +kernel
theorem dX1_pairs_4 : decode cX1_pairs 4 = .ok (.iload_n 2, 1) := by decide +kernel
theorem dX1_pairs_5 : decode cX1_pairs 5 = .ok (.bipush 10, 2) := by decide +kernel
theorem dX1_pairs_7 : decode cX1_pairs 7 = .ok (.aload_n 0, 1) := by decide +kernel
theorem dX1_pairs_8 : decode cX1_pairs 8 = .ok (.getfield 24, 3) := by decide +kernel
theorem dX1_pairs_11 : decode cX1_pairs 11 = .ok (.imul, 1) := by decide +kernel
theorem dX1_pairs_12 : decode cX1_pairs 12 = .ok (.if_icmp .ge 86, 3) := by decide +kernel
theorem dX1_pairs_15 : decode cX1_pairs 15 = .ok (.aload_n 0, 1) := by decide +kernel
theorem dX1_pairs_16 : decode cX1_pairs 16 = .ok (.iload_n 2, 1) := by decide +kernel
theorem dX1_pairs_17 : decode cX1_pairs 17 = .ok (.bipush 10, 2) := by decide +kernel
theorem dX1_pairs_19 : decode cX1_pairs 19 = .ok (.idiv, 1) := by decide +kernel
theorem dX1_pairs_20 : decode cX1_pairs 20 = .ok (.iload_n 2, 1) := by decide +kernel
theorem dX1_pairs_21 : decode cX1_pairs 21 = .ok (.bipush 10, 2) := by decide +kernel
theorem dX1_pairs_23 : decode cX1_pairs 23 = .ok (.irem, 1) := by decide +kernel
theorem dX1_pairs_24 : decode cX1_pairs 24 = .ok (.invokevirtual 67, 3) := by decide +kernel
theorem dX1_pairs_27 : decode cX1_pairs 27 = .ok (.ifCond .ne 6, 3) := by decide +kernel
theorem dX1_pairs_30 : decode cX1_pairs 30 = .ok (.goto 62, 3) := by decide +kernel
theorem dX1_pairs_33 : decode cX1_pairs 33 = .ok (.iconst 0, 1) := by decide +kernel
theorem dX1_pairs_34 : decode cX1_pairs 34 = .ok (.istore_n 3, 1) := by decide +kernel
theorem dX1_pairs_35 : decode cX1_pairs 35 = .ok (.iload_n 3, 1) := by decide +kernel
theorem dX1_pairs_36 : decode cX1_pairs 36 = .ok (.iload_n 2, 1) := by decide +kernel
theorem dX1_pairs_37 : decode cX1_pairs 37 = .ok (.if_icmp .ge 55, 3) := by decide +kernel
theorem dX1_pairs_40 : decode cX1_pairs 40 = .ok (.iload_n 1, 1) := by decide +kernel
theorem dX1_pairs_41 : decode cX1_pairs 41 = .ok (.aload_n 0, 1) := by decide +kernel
theorem dX1_pairs_42 : decode cX1_pairs 42 = .ok (.iload_n 3, 1) := by decide +kernel
theorem dX1_pairs_43 : decode cX1_pairs 43 = .ok (.bipush 10, 2) := by decide +kernel
theorem dX1_pairs_45 : decode cX1_pairs 45 = .ok (.idiv, 1) := by decide +kernel
theorem dX1_pairs_46 : decode cX1_pairs 46 = .ok (.iload_n 3, 1) := by decide +kernel
theorem dX1_pairs_47 : decode cX1_pairs 47 = .ok (.bipush 10, 2) := by decide +kernel
theorem dX1_pairs_49 : decode cX1_pairs 49 = .ok (.irem, 1) := by decide +kernel
theorem dX1_pairs_50 : decode cX1_pairs 50 = .ok (.invokevirtual 67, 3) := by decide +kernel
theorem dX1_pairs_53 : decode cX1_pairs 53 = .ok (.ifCond .eq 30, 3) := by decide +kernel
theorem dX1_pairs_56 : decode cX1_pairs 56 = .ok (.aload_n 0, 1) := by decide +kernel
theorem dX1_pairs_57 : decode cX1_pairs 57 = .ok (.aload_n 0, 1) := by decide +kernel
theorem dX1_pairs_58 : decode cX1_pairs 58 = .ok (.getfield 13, 3) := by decide +kernel
theorem dX1_pairs_61 : decode cX1_pairs 61 = .ok (.iload_n 2, 1) := by decide +kernel
theorem dX1_pairs_62 : decode cX1_pairs 62 = .ok (.iaload, 1) := by decide +kernel
theorem dX1_pairs_63 : decode cX1_pairs 63 = .ok (.invokevirtual 52, 3) := by decide +kernel
theorem dX1_pairs_66 : decode cX1_pairs 66 = .ok (.aload_n 0, 1) := by decide +kernel
theorem dX1_pairs_67 : decode cX1_pairs 67 = .ok (.aload_n 0, 1) := by decide +kernel
theorem dX1_pairs_68 : decode cX1_pairs 68 = .ok (.getfield 13, 3) := by decide +kernel
theorem dX1_pairs_71 : decode cX1_pairs 71 = .ok (.iload_n 3, 1) := by decide +kernel
theorem dX1_pairs_72 : decode cX1_pairs 72 = .ok (.iaload, 1) := by decide +kernel
theorem dX1_pairs_73 : decode cX1_pairs 73 = .ok (.invokevirtual 52, 3) := by decide +kernel
theorem dX1_pairs_76 : decode cX1_pairs 76 = .ok (.if_icmp .ne 7, 3) := by decide +kernel
theorem dX1_pairs_79 : decode cX1_pairs 79 = .ok (.iconst 1, 1) := by decide +kernel
theorem dX1_pairs_80 : decode cX1_pairs 80 = .ok (.goto 4, 3) := by decide +kernel
theorem dX1_pairs_83 : decode cX1_pairs 83 = .ok (.iconst 0, 1) := by decide +kernel
theorem dX1_pairs_84 : decode cX1_pairs 84 = .ok (.iadd, 1) := by decide +kernel
theorem dX1_pairs_85 : decode cX1_pairs 85 = .ok (.istore_n 1, 1) := by decide +kernel
theorem dX1_pairs_86 : decode cX1_pairs 86 = .ok (.iinc 3 1, 3) := by decide +kernel
theorem dX1_pairs_89 : decode cX1_pairs 89 = .ok (.goto (-54), 3) := by decide +kernel
theorem dX1_pairs_92 : decode cX1_pairs 92 = .ok (.iinc 2 1, 3) := by decide +kernel
theorem dX1_pairs_95 : decode cX1_pairs 95 = .ok (.goto (-91), 3) := by decide +kernel
theorem dX1_pairs_98 : decode cX1_pairs 98 = .ok (.iload_n 1, 1) := by decide +kernel
theorem dX1_pairs_99 : decode cX1_pairs 99 = .ok (.ireturn, 1) := by decide +kernel
set_option maxRecDepth 20000 in
theorem ggX1_toldOf_X1_pairs : GoodIn wsX1_toldOf wsX1_pairs := goodIn_r _ [6, 1, 7, 8, 9, 10, 5, 11, 12, 13, 14, 15, 16, 17, 18, 19, 20, 21, 22, 23, 24, 25, 26, 27, 28, 29, 30, 31, 32, 33, 34, 56, 57, 58, 59, 60, 61] (by decide +kernel) (by decide +kernel)
set_option maxRecDepth 20000 in
theorem gX1_toldOf_X1_pairs : GoodIn wsX1_toldOf (wsV RX1 78 RX1 yX1_pairs wsX1_pairs) := goodIn_app (goodIn_of _ (by decide +kernel)) ggX1_toldOf_X1_pairs
set_option maxRecDepth 20000 in
theorem ggX1_toldOf_X1_all : GoodIn wsX1_toldOf wsX1_all := goodIn_r _ [38, 1, 39, 40, 41, 5, 42, 12, 43, 44, 45, 46, 47, 48, 49, 50, 51, 7, 24, 25, 26, 20, 21, 22, 23, 27, 28, 29, 30, 31, 32, 33, 34, 52, 53, 54, 55, 56, 57, 58, 59, 60, 61] (by decide +kernel) (by decide +kernel)
set_option maxRecDepth 20000 in
theorem gX1_toldOf_X1_all : GoodIn wsX1_toldOf (wsV RX1 82 RX1 yX1_all wsX1_all) := goodIn_app (goodIn_of _ (by decide +kernel)) ggX1_toldOf_X1_all
theorem dX1_toldOf_0 : decode cX1_toldOf 0 = .ok (.iload_n 1, 1) := by decide +kernel
theorem dX1_toldOf_1 : decode cX1_toldOf 1 = .ok (.ifCond .ne 10, 3) := by decide +kernel
theorem dX1_toldOf_4 : decode cX1_toldOf 4 = .ok (.aload_n 0, 1) := by decide +kernel
theorem dX1_toldOf_5 : decode cX1_toldOf 5 = .ok (.getfield 24, 3) := by decide +kernel
theorem dX1_toldOf_8 : decode cX1_toldOf 8 = .ok (.goto 23, 3) := by decide +kernel
theorem dX1_toldOf_11 : decode cX1_toldOf 11 = .ok (.iload_n 1, 1) := by decide +kernel
theorem dX1_toldOf_12 : decode cX1_toldOf 12 = .ok (.bipush 6, 2) := by decide +kernel
theorem dX1_toldOf_14 : decode cX1_toldOf 14 = .ok (.if_icmp .ne 10, 3) := by decide +kernel
theorem dX1_toldOf_17 : decode cX1_toldOf 17 = .ok (.aload_n 0, 1) := by decide +kernel
theorem dX1_toldOf_18 : decode cX1_toldOf 18 = .ok (.invokevirtual 78, 3) := by decide +kernel
theorem dX1_toldOf_21 : decode cX1_toldOf 21 = .ok (.goto 10, 3) := by decide +kernel
theorem dX1_toldOf_24 : decode cX1_toldOf 24 = .ok (.aload_n 0, 1) := by decide +kernel
theorem dX1_toldOf_25 : decode cX1_toldOf 25 = .ok (.iload_n 1, 1) := by decide +kernel
theorem dX1_toldOf_26 : decode cX1_toldOf 26 = .ok (.iconst 1, 1) := by decide +kernel
theorem dX1_toldOf_27 : decode cX1_toldOf 27 = .ok (.isub, 1) := by decide +kernel
theorem dX1_toldOf_28 : decode cX1_toldOf 28 = .ok (.invokevirtual 82, 3) := by decide +kernel
theorem dX1_toldOf_31 : decode cX1_toldOf 31 = .ok (.ireturn, 1) := by decide +kernel
set_option maxRecDepth 20000 in
theorem ggX1_told_X1_isIn : GoodIn wsX1_told wsX1_isIn := goodIn_r _ [5] (by decide +kernel) (by decide +kernel)
set_option maxRecDepth 20000 in
theorem gX1_told_X1_isIn : GoodIn wsX1_told (va_wsS RX1 27 yX1_isIn wsX1_isIn) := goodIn_app (goodIn_of _ (by decide +kernel)) ggX1_told_X1_isIn
set_option maxRecDepth 20000 in
theorem ggX1_told_X1_toldOf : GoodIn wsX1_told wsX1_toldOf := goodIn_r _ [9, 10, 11, 12, 13, 4, 14, 15, 16, 17, 18, 19, 20, 21, 22, 23, 24, 2, 3, 5, 25, 26, 27, 28, 29, 30, 31, 32, 33, 34, 35, 36, 37, 38, 39, 40, 41, 42, 43, 44, 45, 46, 47, 48, 49, 50, 51, 52, 53, 54, 55, 56, 57, 58, 59, 60, 65, 66, 67, 68, 69, 70] (by decide +kernel) (by decide +kernel)
set_option maxRecDepth 20000 in
theorem gX1_told_X1_toldOf : GoodIn wsX1_told (wsV RX1 85 RX1 yX1_toldOf wsX1_toldOf) := goodIn_app (goodIn_of _ (by decide +kernel)) ggX1_told_X1_toldOf
set_option maxRecDepth 20000 in
theorem ggX1_told_X1_fail : GoodIn wsX1_told wsX1_fail := goodIn_r _ [64, 1, 65, 66, 67, 68, 69, 70] (by decide +kernel) (by decide +kernel)
set_option maxRecDepth 20000 in
theorem gX1_told_X1_fail : GoodIn wsX1_told (wsV RX1 31 RX1 yX1_fail wsX1_fail) := goodIn_app (goodIn_of _ (by decide +kernel)) ggX1_told_X1_fail
theorem dX1_told_0 : decode cX1_told 0 = .ok (.aload_n 0, 1) := by decide +kernel
theorem dX1_told_1 : decode cX1_told 1 = .ok (.iconst 0, 1) := by decide +kernel
theorem dX1_told_2 : decode cX1_told 2 = .ok (.putfield 20, 3) := by decide +kernel
theorem dX1_told_5 : decode cX1_told 5 = .ok (.iload_n 1, 1) := by decide +kernel
theorem dX1_told_6 : decode cX1_told 6 = .ok (.iconst 0, 1) := by decide +kernel
theorem dX1_told_7 : decode cX1_told 7 = .ok (.bipush 6, 2) := by decide +kernel
theorem dX1_told_9 : decode cX1_told 9 = .ok (.invokestatic 27, 3) := by decide +kernel
theorem dX1_told_12 : decode cX1_told 12 = .ok (.ifCond .eq 11, 3) := by decide +kernel
theorem dX1_told_15 : decode cX1_told 15 = .ok (.aload_n 0, 1) := by decide +kernel
theorem dX1_told_16 : decode cX1_told 16 = .ok (.iload_n 1, 1) := by decide +kernel
theorem dX1_told_17 : decode cX1_told 17 = .ok (.invokevirtual 85, 3) := by decide +kernel
theorem dX1_told_20 : decode cX1_told 20 = .ok (.goto 8, 3) := by decide +kernel
theorem dX1_told_23 : decode cX1_told 23 = .ok (.aload_n 0, 1) := by decide +kernel
theorem dX1_told_24 : decode cX1_told 24 = .ok (.iconst 1, 1) := by decide +kernel
theorem dX1_told_25 : decode cX1_told 25 = .ok (.invokevirtual 31, 3) := by decide +kernel
theorem dX1_told_28 : decode cX1_told 28 = .ok (.ireturn, 1) := by decide +kernel
set_option maxRecDepth 20000 in
theorem ggX1_runTo_X1_wo : GoodIn wsX1_runTo wsX1_wo := goodIn_r _ [6, 7, 23, 24, 25, 26, 27, 28] (by decide +kernel) (by decide +kernel)
set_option maxRecDepth 20000 in
theorem gX1_runTo_X1_wo : GoodIn wsX1_runTo (wsV RX1 64 RX1 yX1_wo wsX1_wo) := goodIn_app (goodIn_of _ (by decide +kernel)) ggX1_runTo_X1_wo
set_option maxRecDepth 20000 in
theorem ggX1_runTo_X1_sum : GoodIn wsX1_runTo wsX1_sum := goodIn_r _ [11, 12, 13, 5, 14, 15, 16, 17, 18, 19, 20, 21, 22, 23, 24, 25, 26, 27, 28] (by decide +kernel) (by decide +kernel)
set_option maxRecDepth 20000 in
theorem gX1_runTo_X1_sum : GoodIn wsX1_runTo (wsV RX1 52 RX1 yX1_sum wsX1_sum) := goodIn_app (goodIn_of _ (by decide +kernel)) ggX1_runTo_X1_sum
theorem dX1_runTo_0 : decode cX1_runTo 0 = .ok (.iconst 0, 1) := by decide +kernel
theorem dX1_runTo_1 : decode cX1_runTo 1 = .ok (.istore 4, 2) := by decide +kernel
theorem dX1_runTo_3 : decode cX1_runTo 3 = .ok (.iload_n 2, 1) := by decide +kernel
theorem dX1_runTo_4 : decode cX1_runTo 4 = .ok (.istore 5, 2) := by decide +kernel
theorem dX1_runTo_6 : decode cX1_runTo 6 = .ok (.iload 5, 2) := by decide +kernel
theorem dX1_runTo_8 : decode cX1_runTo 8 = .ok (.aload_n 0, 1) := by decide +kernel
theorem dX1_runTo_9 : decode cX1_runTo 9 = .ok (.getfield 9, 3) := by decide +kernel
theorem dX1_runTo_12 : decode cX1_runTo 12 = .ok (.iload_n 1, 1) := by decide +kernel
theorem dX1_runTo_13 : decode cX1_runTo 13 = .ok (.iaload, 1) := by decide +kernel
theorem dX1_runTo_14 : decode cX1_runTo 14 = .ok (.if_icmp .ge 34, 3) := by decide +kernel
theorem dX1_runTo_17 : decode cX1_runTo 17 = .ok (.iload 4, 2) := by decide +kernel
theorem dX1_runTo_19 : decode cX1_runTo 19 = .ok (.aload_n 0, 1) := by decide +kernel
theorem dX1_runTo_20 : decode cX1_runTo 20 = .ok (.aload_n 0, 1) := by decide +kernel
theorem dX1_runTo_21 : decode cX1_runTo 21 = .ok (.iload_n 1, 1) := by decide +kernel
theorem dX1_runTo_22 : decode cX1_runTo 22 = .ok (.iload 5, 2) := by decide +kernel
theorem dX1_runTo_24 : decode cX1_runTo 24 = .ok (.invokevirtual 64, 3) := by decide +kernel
theorem dX1_runTo_27 : decode cX1_runTo 27 = .ok (.invokevirtual 52, 3) := by decide +kernel
theorem dX1_runTo_30 : decode cX1_runTo 30 = .ok (.iadd, 1) := by decide +kernel
theorem dX1_runTo_31 : decode cX1_runTo 31 = .ok (.istore 4, 2) := by decide +kernel
theorem dX1_runTo_33 : decode cX1_runTo 33 = .ok (.iload 4, 2) := by decide +kernel
theorem dX1_runTo_35 : decode cX1_runTo 35 = .ok (.iload_n 3, 1) := by decide +kernel
theorem dX1_runTo_36 : decode cX1_runTo 36 = .ok (.if_icmp .ne 6, 3) := by decide +kernel
theorem dX1_runTo_39 : decode cX1_runTo 39 = .ok (.iload 5, 2) := by decide +kernel
theorem dX1_runTo_41 : decode cX1_runTo 41 = .ok (.ireturn, 1) := by decide +kernel
theorem dX1_runTo_42 : decode cX1_runTo 42 = .ok (.iinc 5 1, 3) := by decide +kernel
theorem dX1_runTo_45 : decode cX1_runTo 45 = .ok (.goto (-39), 3) := by decide +kernel
theorem dX1_runTo_48 : decode cX1_runTo 48 = .ok (.iconst (-1), 1) := by decide +kernel
theorem dX1_runTo_49 : decode cX1_runTo 49 = .ok (.ireturn, 1) := by decide +kernel
set_option maxRecDepth 20000 in
theorem ggX1_hidden_X1_isLine : GoodIn wsX1_hidden wsX1_isLine := goodIn_r _ [7, 8, 9, 10, 6, 11, 40, 41, 42, 43, 44, 45] (by decide +kernel) (by decide +kernel)
set_option maxRecDepth 20000 in
theorem gX1_hidden_X1_isLine : GoodIn wsX1_hidden (wsV RX1 58 RX1 yX1_isLine wsX1_isLine) := goodIn_app (goodIn_of _ (by decide +kernel)) ggX1_hidden_X1_isLine
set_option maxRecDepth 20000 in
theorem ggX1_hidden_X1_fail : GoodIn wsX1_hidden wsX1_fail := goodIn_r _ [15, 1, 40, 41, 42, 43, 44, 45] (by decide +kernel) (by decide +kernel)
set_option maxRecDepth 20000 in
theorem gX1_hidden_X1_fail : GoodIn wsX1_hidden (wsV RX1 31 RX1 yX1_fail wsX1_fail) := goodIn_app (goodIn_of _ (by decide +kernel)) ggX1_hidden_X1_fail
set_option maxRecDepth 20000 in
theorem ggX1_hidden_X1_runTo : GoodIn wsX1_hidden wsX1_runTo := goodIn_r _ [19, 2, 20, 21, 22, 6, 23, 24, 25, 26, 27, 28, 29, 30, 31, 32, 33, 34, 35, 36, 37, 38, 39, 40, 41, 42, 43, 44, 45] (by decide +kernel) (by decide +kernel)
set_option maxRecDepth 20000 in
theorem gX1_hidden_X1_runTo : GoodIn wsX1_hidden (wsV RX1 88 RX1 yX1_runTo wsX1_runTo) := goodIn_app (goodIn_of _ (by decide +kernel)) ggX1_hidden_X1_runTo
theorem dX1_hidden_0 : decode cX1_hidden 0 = .ok (.aload_n 0, 1) := by decide +kernel
theorem dX1_hidden_1 : decode cX1_hidden 1 = .ok (.iconst 0, 1) := by decide +kernel
theorem dX1_hidden_2 : decode cX1_hidden 2 = .ok (.putfield 20, 3) := by decide +kernel
theorem dX1_hidden_5 : decode cX1_hidden 5 = .ok (.aload_n 0, 1) := by decide +kernel
theorem dX1_hidden_6 : decode cX1_hidden 6 = .ok (.iload_n 1, 1) := by decide +kernel
theorem dX1_hidden_7 : decode cX1_hidden 7 = .ok (.invokevirtual 58, 3) := by decide +kernel
theorem dX1_hidden_10 : decode cX1_hidden 10 = .ok (.ifCond .ne 9, 3) := by decide +kernel
theorem dX1_hidden_13 : decode cX1_hidden 13 = .ok (.aload_n 0, 1) := by decide +kernel
theorem dX1_hidden_14 : decode cX1_hidden 14 = .ok (.iconst 1, 1) := by decide +kernel
theorem dX1_hidden_15 : decode cX1_hidden 15 = .ok (.invokevirtual 31, 3) := by decide +kernel
theorem dX1_hidden_18 : decode cX1_hidden 18 = .ok (.ireturn, 1) := by decide +kernel
theorem dX1_hidden_19 : decode cX1_hidden 19 = .ok (.iconst 0, 1) := by decide +kernel
theorem dX1_hidden_20 : decode cX1_hidden 20 = .ok (.istore_n 3, 1) := by decide +kernel
theorem dX1_hidden_21 : decode cX1_hidden 21 = .ok (.iload_n 3, 1) := by decide +kernel
theorem dX1_hidden_22 : decode cX1_hidden 22 = .ok (.aload_n 0, 1) := by decide +kernel
theorem dX1_hidden_23 : decode cX1_hidden 23 = .ok (.getfield 9, 3) := by decide +kernel
theorem dX1_hidden_26 : decode cX1_hidden 26 = .ok (.iload_n 1, 1) := by decide +kernel
theorem dX1_hidden_27 : decode cX1_hidden 27 = .ok (.iaload, 1) := by decide +kernel
theorem dX1_hidden_28 : decode cX1_hidden 28 = .ok (.if_icmp .ge 33, 3) := by decide +kernel
theorem dX1_hidden_31 : decode cX1_hidden 31 = .ok (.aload_n 0, 1) := by decide +kernel
theorem dX1_hidden_32 : decode cX1_hidden 32 = .ok (.iload_n 1, 1) := by decide +kernel
theorem dX1_hidden_33 : decode cX1_hidden 33 = .ok (.iload_n 3, 1) := by decide +kernel
theorem dX1_hidden_34 : decode cX1_hidden 34 = .ok (.iload_n 2, 1) := by decide +kernel
theorem dX1_hidden_35 : decode cX1_hidden 35 = .ok (.invokevirtual 88, 3) := by decide +kernel
theorem dX1_hidden_38 : decode cX1_hidden 38 = .ok (.iconst (-1), 1) := by decide +kernel
theorem dX1_hidden_39 : decode cX1_hidden 39 = .ok (.if_icmp .eq 16, 3) := by decide +kernel
theorem dX1_hidden_42 : decode cX1_hidden 42 = .ok (.bipush 10, 2) := by decide +kernel
theorem dX1_hidden_44 : decode cX1_hidden 44 = .ok (.iload_n 3, 1) := by decide +kernel
theorem dX1_hidden_45 : decode cX1_hidden 45 = .ok (.imul, 1) := by decide +kernel
theorem dX1_hidden_46 : decode cX1_hidden 46 = .ok (.aload_n 0, 1) := by decide +kernel
theorem dX1_hidden_47 : decode cX1_hidden 47 = .ok (.iload_n 1, 1) := by decide +kernel
theorem dX1_hidden_48 : decode cX1_hidden 48 = .ok (.iload_n 3, 1) := by decide +kernel
theorem dX1_hidden_49 : decode cX1_hidden 49 = .ok (.iload_n 2, 1) := by decide +kernel
theorem dX1_hidden_50 : decode cX1_hidden 50 = .ok (.invokevirtual 88, 3) := by decide +kernel
theorem dX1_hidden_53 : decode cX1_hidden 53 = .ok (.iadd, 1) := by decide +kernel
theorem dX1_hidden_54 : decode cX1_hidden 54 = .ok (.ireturn, 1) := by decide +kernel
theorem dX1_hidden_55 : decode cX1_hidden 55 = .ok (.iinc 3 1, 3) := by decide +kernel
theorem dX1_hidden_58 : decode cX1_hidden 58 = .ok (.goto (-37), 3) := by decide +kernel
theorem dX1_hidden_61 : decode cX1_hidden 61 = .ok (.iconst (-1), 1) := by decide +kernel
theorem dX1_hidden_62 : decode cX1_hidden 62 = .ok (.ireturn, 1) := by decide +kernel
set_option maxRecDepth 20000 in
theorem ggX1_hides_X1_runTo : GoodIn wsX1_hides wsX1_runTo := goodIn_r _ [8, 3, 9, 10, 11, 7, 12, 13, 14, 15, 16, 17, 18, 19, 20, 21, 22, 23, 24, 25, 26, 27, 28, 29, 30, 31, 32, 33, 34] (by decide +kernel) (by decide +kernel)
set_option maxRecDepth 20000 in
theorem gX1_hides_X1_runTo : GoodIn wsX1_hides (wsV RX1 88 RX1 yX1_runTo wsX1_runTo) := goodIn_app (goodIn_of _ (by decide +kernel)) ggX1_hides_X1_runTo
theorem dX1_hides_0 : decode cX1_hides 0 = .ok (.aload_n 0, 1) := by decide +kernel
theorem dX1_hides_1 : decode cX1_hides 1 = .ok (.iconst 0, 1) := by decide +kernel
theorem dX1_hides_2 : decode cX1_hides 2 = .ok (.putfield 20, 3) := by decide +kernel
theorem dX1_hides_5 : decode cX1_hides 5 = .ok (.iconst 0, 1) := by decide +kernel
theorem dX1_hides_6 : decode cX1_hides 6 = .ok (.istore_n 2, 1) := by decide +kernel
theorem dX1_hides_7 : decode cX1_hides 7 = .ok (.iconst 0, 1) := by decide +kernel
theorem dX1_hides_8 : decode cX1_hides 8 = .ok (.istore_n 3, 1) := by decide +kernel
theorem dX1_hides_9 : decode cX1_hides 9 = .ok (.iload_n 3, 1) := by decide +kernel
theorem dX1_hides_10 : decode cX1_hides 10 = .ok (.aload_n 0, 1) := by decide +kernel
theorem dX1_hides_11 : decode cX1_hides 11 = .ok (.getfield 24, 3) := by decide +kernel
theorem dX1_hides_14 : decode cX1_hides 14 = .ok (.if_icmp .ge 49, 3) := by decide +kernel
theorem dX1_hides_17 : decode cX1_hides 17 = .ok (.iconst 0, 1) := by decide +kernel
theorem dX1_hides_18 : decode cX1_hides 18 = .ok (.istore 4, 2) := by decide +kernel
theorem dX1_hides_20 : decode cX1_hides 20 = .ok (.iload 4, 2) := by decide +kernel
theorem dX1_hides_22 : decode cX1_hides 22 = .ok (.aload_n 0, 1) := by decide +kernel
theorem dX1_hides_23 : decode cX1_hides 23 = .ok (.getfield 9, 3) := by decide +kernel
theorem dX1_hides_26 : decode cX1_hides 26 = .ok (.iload_n 3, 1) := by decide +kernel
theorem dX1_hides_27 : decode cX1_hides 27 = .ok (.iaload, 1) := by decide +kernel
theorem dX1_hides_28 : decode cX1_hides 28 = .ok (.if_icmp .ge 29, 3) := by decide +kernel
theorem dX1_hides_31 : decode cX1_hides 31 = .ok (.iload_n 2, 1) := by decide +kernel
theorem dX1_hides_32 : decode cX1_hides 32 = .ok (.aload_n 0, 1) := by decide +kernel
theorem dX1_hides_33 : decode cX1_hides 33 = .ok (.iload_n 3, 1) := by decide +kernel
theorem dX1_hides_34 : decode cX1_hides 34 = .ok (.iload 4, 2) := by decide +kernel
theorem dX1_hides_36 : decode cX1_hides 36 = .ok (.iload_n 1, 1) := by decide +kernel
theorem dX1_hides_37 : decode cX1_hides 37 = .ok (.invokevirtual 88, 3) := by decide +kernel
theorem dX1_hides_40 : decode cX1_hides 40 = .ok (.iconst (-1), 1) := by decide +kernel
theorem dX1_hides_41 : decode cX1_hides 41 = .ok (.if_icmp .ne 7, 3) := by decide +kernel
theorem dX1_hides_44 : decode cX1_hides 44 = .ok (.iconst 0, 1) := by decide +kernel
theorem dX1_hides_45 : decode cX1_hides 45 = .ok (.goto 4, 3) := by decide +kernel
theorem dX1_hides_48 : decode cX1_hides 48 = .ok (.iconst 1, 1) := by decide +kernel
theorem dX1_hides_49 : decode cX1_hides 49 = .ok (.iadd, 1) := by decide +kernel
theorem dX1_hides_50 : decode cX1_hides 50 = .ok (.istore_n 2, 1) := by decide +kernel
theorem dX1_hides_51 : decode cX1_hides 51 = .ok (.iinc 4 1, 3) := by decide +kernel
theorem dX1_hides_54 : decode cX1_hides 54 = .ok (.goto (-34), 3) := by decide +kernel
theorem dX1_hides_57 : decode cX1_hides 57 = .ok (.iinc 3 1, 3) := by decide +kernel
theorem dX1_hides_60 : decode cX1_hides 60 = .ok (.goto (-51), 3) := by decide +kernel
theorem dX1_hides_63 : decode cX1_hides 63 = .ok (.iload_n 2, 1) := by decide +kernel
theorem dX1_hides_64 : decode cX1_hides 64 = .ok (.ireturn, 1) := by decide +kernel
set_option maxRecDepth 20000 in
theorem ggX1_lacks_X1_isLine : GoodIn wsX1_lacks wsX1_isLine := goodIn_r _ [6, 7, 8, 9, 5, 10, 49, 50, 51, 52, 53, 54] (by decide +kernel) (by decide +kernel)
set_option maxRecDepth 20000 in
theorem gX1_lacks_X1_isLine : GoodIn wsX1_lacks (wsV RX1 58 RX1 yX1_isLine wsX1_isLine) := goodIn_app (goodIn_of _ (by decide +kernel)) ggX1_lacks_X1_isLine
set_option maxRecDepth 20000 in
theorem ggX1_lacks_X1_fail : GoodIn wsX1_lacks wsX1_fail := goodIn_r _ [14, 1, 49, 50, 51, 52, 53, 54] (by decide +kernel) (by decide +kernel)
set_option maxRecDepth 20000 in
theorem gX1_lacks_X1_fail : GoodIn wsX1_lacks (wsV RX1 31 RX1 yX1_fail wsX1_fail) := goodIn_app (goodIn_of _ (by decide +kernel)) ggX1_lacks_X1_fail
set_option maxRecDepth 20000 in
theorem ggX1_lacks_X1_lineTold : GoodIn wsX1_lacks wsX1_lineTold := goodIn_r _ [18, 19, 20, 21, 22, 5, 23, 24, 25, 26, 27, 28, 29, 30, 31, 32, 33, 34, 35, 36, 37, 38, 39, 40, 41, 42, 43, 44, 45, 46, 47, 48, 49, 50, 51, 52, 53, 54] (by decide +kernel) (by decide +kernel)
set_option maxRecDepth 20000 in
theorem gX1_lacks_X1_lineTold : GoodIn wsX1_lacks (wsV RX1 75 RX1 yX1_lineTold wsX1_lineTold) := goodIn_app (goodIn_of _ (by decide +kernel)) ggX1_lacks_X1_lineTold
set_option maxRecDepth 20000 in
theorem ggX1_lacks_X1_valueOf : GoodIn wsX1_lacks wsX1_valueOf := goodIn_r _ [43, 44, 49, 50, 51, 52, 53, 54] (by decide +kernel) (by decide +kernel)
set_option maxRecDepth 20000 in
theorem gX1_lacks_X1_valueOf : GoodIn wsX1_lacks (wsV RX1 38 RX1 yX1_valueOf wsX1_valueOf) := goodIn_app (goodIn_of _ (by decide +kernel)) ggX1_lacks_X1_valueOf
theorem dX1_lacks_0 : decode cX1_lacks 0 = .ok (.aload_n 0, 1) := by decide +kernel
theorem dX1_lacks_1 : decode cX1_lacks 1 = .ok (.iconst 0, 1) := by decide +kernel
theorem dX1_lacks_2 : decode cX1_lacks 2 = .ok (.putfield 20, 3) := by decide +kernel
theorem dX1_lacks_5 : decode cX1_lacks 5 = .ok (.aload_n 0, 1) := by decide +kernel
theorem dX1_lacks_6 : decode cX1_lacks 6 = .ok (.iload_n 1, 1) := by decide +kernel
theorem dX1_lacks_7 : decode cX1_lacks 7 = .ok (.invokevirtual 58, 3) := by decide +kernel
theorem dX1_lacks_10 : decode cX1_lacks 10 = .ok (.ifCond .ne 9, 3) := by decide +kernel
theorem dX1_lacks_13 : decode cX1_lacks 13 = .ok (.aload_n 0, 1) := by decide +kernel
theorem dX1_lacks_14 : decode cX1_lacks 14 = .ok (.iconst 1, 1) := by decide +kernel
theorem dX1_lacks_15 : decode cX1_lacks 15 = .ok (.invokevirtual 31, 3) := by decide +kernel
theorem dX1_lacks_18 : decode cX1_lacks 18 = .ok (.ireturn, 1) := by decide +kernel
theorem dX1_lacks_19 : decode cX1_lacks 19 = .ok (.iconst 1, 1) := by decide +kernel
theorem dX1_lacks_20 : decode cX1_lacks 20 = .ok (.istore_n 3, 1) := by decide +kernel
theorem dX1_lacks_21 : decode cX1_lacks 21 = .ok (.iload_n 3, 1) := by decide +kernel
theorem dX1_lacks_22 : decode cX1_lacks 22 = .ok (.bipush 26, 2) := by decide +kernel
theorem dX1_lacks_24 : decode cX1_lacks 24 = .ok (.if_icmp .gt 27, 3) := by decide +kernel
theorem dX1_lacks_27 : decode cX1_lacks 27 = .ok (.aload_n 0, 1) := by decide +kernel
theorem dX1_lacks_28 : decode cX1_lacks 28 = .ok (.iload_n 1, 1) := by decide +kernel
theorem dX1_lacks_29 : decode cX1_lacks 29 = .ok (.iconst 2, 1) := by decide +kernel
theorem dX1_lacks_30 : decode cX1_lacks 30 = .ok (.invokevirtual 75, 3) := by decide +kernel
theorem dX1_lacks_33 : decode cX1_lacks 33 = .ok (.aload_n 0, 1) := by decide +kernel
theorem dX1_lacks_34 : decode cX1_lacks 34 = .ok (.iload_n 3, 1) := by decide +kernel
theorem dX1_lacks_35 : decode cX1_lacks 35 = .ok (.invokevirtual 38, 3) := by decide +kernel
theorem dX1_lacks_38 : decode cX1_lacks 38 = .ok (.iadd, 1) := by decide +kernel
theorem dX1_lacks_39 : decode cX1_lacks 39 = .ok (.iload_n 2, 1) := by decide +kernel
theorem dX1_lacks_40 : decode cX1_lacks 40 = .ok (.if_icmp .ne 5, 3) := by decide +kernel
theorem dX1_lacks_43 : decode cX1_lacks 43 = .ok (.iload_n 3, 1) := by decide +kernel
theorem dX1_lacks_44 : decode cX1_lacks 44 = .ok (.ireturn, 1) := by decide +kernel
theorem dX1_lacks_45 : decode cX1_lacks 45 = .ok (.iinc 3 1, 3) := by decide +kernel
theorem dX1_lacks_48 : decode cX1_lacks 48 = .ok (.goto (-27), 3) := by decide +kernel
theorem dX1_lacks_51 : decode cX1_lacks 51 = .ok (.iconst (-1), 1) := by decide +kernel
theorem dX1_lacks_52 : decode cX1_lacks 52 = .ok (.ireturn, 1) := by decide +kernel
set_option maxRecDepth 20000 in
theorem ggX1_nearest_X1_lineTold : GoodIn wsX1_nearest wsX1_lineTold := goodIn_r _ [11, 12, 13, 14, 15, 10, 16, 17, 18, 19, 20, 21, 22, 23, 24, 25, 26, 27, 28, 29, 30, 31, 32, 33, 34, 35, 36, 37, 38, 39, 40, 41, 42, 43, 44, 45, 46, 47] (by decide +kernel) (by decide +kernel)
set_option maxRecDepth 20000 in
theorem gX1_nearest_X1_lineTold : GoodIn wsX1_nearest (wsV RX1 75 RX1 yX1_lineTold wsX1_lineTold) := goodIn_app (goodIn_of _ (by decide +kernel)) ggX1_nearest_X1_lineTold
theorem dX1_nearest_0 : decode cX1_nearest 0 = .ok (.aload_n 0, 1) := by decide +kernel
theorem dX1_nearest_1 : decode cX1_nearest 1 = .ok (.iconst 0, 1) := by decide +kernel
theorem dX1_nearest_2 : decode cX1_nearest 2 = .ok (.putfield 20, 3) := by decide +kernel
theorem dX1_nearest_5 : decode cX1_nearest 5 = .ok (.iconst (-1), 1) := by decide +kernel
theorem dX1_nearest_6 : decode cX1_nearest 6 = .ok (.istore_n 2, 1) := by decide +kernel
theorem dX1_nearest_7 : decode cX1_nearest 7 = .ok (.iconst 0, 1) := by decide +kernel
theorem dX1_nearest_8 : decode cX1_nearest 8 = .ok (.istore_n 3, 1) := by decide +kernel
theorem dX1_nearest_9 : decode cX1_nearest 9 = .ok (.iload_n 3, 1) := by decide +kernel
theorem dX1_nearest_10 : decode cX1_nearest 10 = .ok (.aload_n 0, 1) := by decide +kernel
theorem dX1_nearest_11 : decode cX1_nearest 11 = .ok (.getfield 24, 3) := by decide +kernel
theorem dX1_nearest_14 : decode cX1_nearest 14 = .ok (.if_icmp .ge 46, 3) := by decide +kernel
theorem dX1_nearest_17 : decode cX1_nearest 17 = .ok (.iload_n 2, 1) := by decide +kernel
theorem dX1_nearest_18 : decode cX1_nearest 18 = .ok (.iconst (-1), 1) := by decide +kernel
theorem dX1_nearest_19 : decode cX1_nearest 19 = .ok (.if_icmp .eq 33, 3) := by decide +kernel
theorem dX1_nearest_22 : decode cX1_nearest 22 = .ok (.aload_n 0, 1) := by decide +kernel
theorem dX1_nearest_23 : decode cX1_nearest 23 = .ok (.iload_n 3, 1) := by decide +kernel
theorem dX1_nearest_24 : decode cX1_nearest 24 = .ok (.iconst 2, 1) := by decide +kernel
theorem dX1_nearest_25 : decode cX1_nearest 25 = .ok (.invokevirtual 75, 3) := by decide +kernel
theorem dX1_nearest_28 : decode cX1_nearest 28 = .ok (.i2l, 1) := by decide +kernel
theorem dX1_nearest_29 : decode cX1_nearest 29 = .ok (.iload_n 1, 1) := by decide +kernel
theorem dX1_nearest_30 : decode cX1_nearest 30 = .ok (.i2l, 1) := by decide +kernel
theorem dX1_nearest_31 : decode cX1_nearest 31 = .ok (.lsub, 1) := by decide +kernel
theorem dX1_nearest_32 : decode cX1_nearest 32 = .ok (.invokestatic 91, 3) := by decide +kernel
theorem dX1_nearest_35 : decode cX1_nearest 35 = .ok (.aload_n 0, 1) := by decide +kernel
theorem dX1_nearest_36 : decode cX1_nearest 36 = .ok (.iload_n 2, 1) := by decide +kernel
theorem dX1_nearest_37 : decode cX1_nearest 37 = .ok (.iconst 2, 1) := by decide +kernel
theorem dX1_nearest_38 : decode cX1_nearest 38 = .ok (.invokevirtual 75, 3) := by decide +kernel
theorem dX1_nearest_41 : decode cX1_nearest 41 = .ok (.i2l, 1) := by decide +kernel
theorem dX1_nearest_42 : decode cX1_nearest 42 = .ok (.iload_n 1, 1) := by decide +kernel
theorem dX1_nearest_43 : decode cX1_nearest 43 = .ok (.i2l, 1) := by decide +kernel
theorem dX1_nearest_44 : decode cX1_nearest 44 = .ok (.lsub, 1) := by decide +kernel
theorem dX1_nearest_45 : decode cX1_nearest 45 = .ok (.invokestatic 91, 3) := by decide +kernel
theorem dX1_nearest_48 : decode cX1_nearest 48 = .ok (.lcmp, 1) := by decide +kernel
theorem dX1_nearest_49 : decode cX1_nearest 49 = .ok (.ifCond .ge 5, 3) := by decide +kernel
theorem dX1_nearest_52 : decode cX1_nearest 52 = .ok (.iload_n 3, 1) := by decide +kernel
theorem dX1_nearest_53 : decode cX1_nearest 53 = .ok (.istore_n 2, 1) := by decide +kernel
theorem dX1_nearest_54 : decode cX1_nearest 54 = .ok (.iinc 3 1, 3) := by decide +kernel
theorem dX1_nearest_57 : decode cX1_nearest 57 = .ok (.goto (-48), 3) := by decide +kernel
theorem dX1_nearest_60 : decode cX1_nearest 60 = .ok (.iload_n 2, 1) := by decide +kernel
theorem dX1_nearest_61 : decode cX1_nearest 61 = .ok (.ireturn, 1) := by decide +kernel
set_option maxRecDepth 20000 in
theorem ggX1_fewest_X1_valueOf : GoodIn wsX1_fewest wsX1_valueOf := goodIn_r _ [10, 11, 12, 13, 14, 15, 16, 17] (by decide +kernel) (by decide +kernel)
set_option maxRecDepth 20000 in
theorem gX1_fewest_X1_valueOf : GoodIn wsX1_fewest (wsV RX1 38 RX1 yX1_valueOf wsX1_valueOf) := goodIn_app (goodIn_of _ (by decide +kernel)) ggX1_fewest_X1_valueOf
theorem dX1_fewest_0 : decode cX1_fewest 0 = .ok (.iload_n 1, 1) := by decide +kernel
theorem dX1_fewest_1 : decode cX1_fewest 1 = .ok (.iconst 1, 1) := by decide +kernel
theorem dX1_fewest_2 : decode cX1_fewest 2 = .ok (.iadd, 1) := by decide +kernel
theorem dX1_fewest_3 : decode cX1_fewest 3 = .ok (.newarray .int, 2) := by decide +kernel
theorem dX1_fewest_5 : decode cX1_fewest 5 = .ok (.astore_n 2, 1) := by decide +kernel
theorem dX1_fewest_6 : decode cX1_fewest 6 = .ok (.iconst 1, 1) := by decide +kernel
theorem dX1_fewest_7 : decode cX1_fewest 7 = .ok (.istore_n 3, 1) := by decide +kernel
theorem dX1_fewest_8 : decode cX1_fewest 8 = .ok (.iload_n 3, 1) := by decide +kernel
theorem dX1_fewest_9 : decode cX1_fewest 9 = .ok (.iload_n 1, 1) := by decide +kernel
theorem dX1_fewest_10 : decode cX1_fewest 10 = .ok (.if_icmp .gt 62, 3) := by decide +kernel
theorem dX1_fewest_13 : decode cX1_fewest 13 = .ok (.aload_n 2, 1) := by decide +kernel
theorem dX1_fewest_14 : decode cX1_fewest 14 = .ok (.iload_n 3, 1) := by decide +kernel
theorem dX1_fewest_15 : decode cX1_fewest 15 = .ok (.sipush 9999, 3) := by decide +kernel
theorem dX1_fewest_18 : decode cX1_fewest 18 = .ok (.iastore, 1) := by decide +kernel
theorem dX1_fewest_19 : decode cX1_fewest 19 = .ok (.iconst 1, 1) := by decide +kernel
theorem dX1_fewest_20 : decode cX1_fewest 20 = .ok (.istore 4, 2) := by decide +kernel
theorem dX1_fewest_22 : decode cX1_fewest 22 = .ok (.iload 4, 2) := by decide +kernel
theorem dX1_fewest_24 : decode cX1_fewest 24 = .ok (.bipush 26, 2) := by decide +kernel
theorem dX1_fewest_26 : decode cX1_fewest 26 = .ok (.if_icmp .gt 40, 3) := by decide +kernel
theorem dX1_fewest_29 : decode cX1_fewest 29 = .ok (.aload_n 0, 1) := by decide +kernel
theorem dX1_fewest_30 : decode cX1_fewest 30 = .ok (.iload 4, 2) := by decide +kernel
theorem dX1_fewest_32 : decode cX1_fewest 32 = .ok (.invokevirtual 38, 3) := by decide +kernel
theorem dX1_fewest_35 : decode cX1_fewest 35 = .ok (.iload_n 3, 1) := by decide +kernel
theorem dX1_fewest_36 : decode cX1_fewest 36 = .ok (.if_icmp .gt 24, 3) := by decide +kernel
theorem dX1_fewest_39 : decode cX1_fewest 39 = .ok (.aload_n 2, 1) := by decide +kernel
theorem dX1_fewest_40 : decode cX1_fewest 40 = .ok (.iload_n 3, 1) := by decide +kernel
theorem dX1_fewest_41 : decode cX1_fewest 41 = .ok (.aload_n 2, 1) := by decide +kernel
theorem dX1_fewest_42 : decode cX1_fewest 42 = .ok (.iload_n 3, 1) := by decide +kernel
theorem dX1_fewest_43 : decode cX1_fewest 43 = .ok (.iaload, 1) := by decide +kernel
theorem dX1_fewest_44 : decode cX1_fewest 44 = .ok (.aload_n 2, 1) := by decide +kernel
theorem dX1_fewest_45 : decode cX1_fewest 45 = .ok (.iload_n 3, 1) := by decide +kernel
theorem dX1_fewest_46 : decode cX1_fewest 46 = .ok (.aload_n 0, 1) := by decide +kernel
theorem dX1_fewest_47 : decode cX1_fewest 47 = .ok (.iload 4, 2) := by decide +kernel
theorem dX1_fewest_49 : decode cX1_fewest 49 = .ok (.invokevirtual 38, 3) := by decide +kernel
theorem dX1_fewest_52 : decode cX1_fewest 52 = .ok (.isub, 1) := by decide +kernel
theorem dX1_fewest_53 : decode cX1_fewest 53 = .ok (.iaload, 1) := by decide +kernel
theorem dX1_fewest_54 : decode cX1_fewest 54 = .ok (.iconst 1, 1) := by decide +kernel
theorem dX1_fewest_55 : decode cX1_fewest 55 = .ok (.iadd, 1) := by decide +kernel
theorem dX1_fewest_56 : decode cX1_fewest 56 = .ok (.invokestatic 97, 3) := by decide +kernel
theorem dX1_fewest_59 : decode cX1_fewest 59 = .ok (.iastore, 1) := by decide +kernel
theorem dX1_fewest_60 : decode cX1_fewest 60 = .ok (.iinc 4 1, 3) := by decide +kernel
theorem dX1_fewest_63 : decode cX1_fewest 63 = .ok (.goto (-41), 3) := by decide +kernel
theorem dX1_fewest_66 : decode cX1_fewest 66 = .ok (.iinc 3 1, 3) := by decide +kernel
theorem dX1_fewest_69 : decode cX1_fewest 69 = .ok (.goto (-61), 3) := by decide +kernel
theorem dX1_fewest_72 : decode cX1_fewest 72 = .ok (.aload_n 2, 1) := by decide +kernel
theorem dX1_fewest_73 : decode cX1_fewest 73 = .ok (.areturn, 1) := by decide +kernel
set_option maxRecDepth 20000 in
theorem ggX1_letters_X1_isIn : GoodIn wsX1_letters wsX1_isIn := goodIn_r _ [5] (by decide +kernel) (by decide +kernel)
set_option maxRecDepth 20000 in
theorem gX1_letters_X1_isIn : GoodIn wsX1_letters (va_wsS RX1 27 yX1_isIn wsX1_isIn) := goodIn_app (goodIn_of _ (by decide +kernel)) ggX1_letters_X1_isIn
set_option maxRecDepth 20000 in
theorem ggX1_letters_X1_fail : GoodIn wsX1_letters wsX1_fail := goodIn_r _ [9, 1, 24, 25, 26, 27, 28, 29] (by decide +kernel) (by decide +kernel)
set_option maxRecDepth 20000 in
theorem gX1_letters_X1_fail : GoodIn wsX1_letters (wsV RX1 31 RX1 yX1_fail wsX1_fail) := goodIn_app (goodIn_of _ (by decide +kernel)) ggX1_letters_X1_fail
set_option maxRecDepth 20000 in
theorem ggX1_letters_X1_fewest : GoodIn wsX1_letters wsX1_fewest := goodIn_r _ [13, 14, 15, 16, 17, 18, 19, 20, 21, 4, 22, 23, 24, 25, 26, 27, 28, 29] (by decide +kernel) (by decide +kernel)
set_option maxRecDepth 20000 in
theorem gX1_letters_X1_fewest : GoodIn wsX1_letters (wsV RX1 100 RX1 yX1_fewest wsX1_fewest) := goodIn_app (goodIn_of _ (by decide +kernel)) ggX1_letters_X1_fewest
theorem dX1_letters_0 : decode cX1_letters 0 = .ok (.aload_n 0, 1) := by decide +kernel
theorem dX1_letters_1 : decode cX1_letters 1 = .ok (.iconst 0, 1) := by decide +kernel
theorem dX1_letters_2 : decode cX1_letters 2 = .ok (.putfield 20, 3) := by decide +kernel
theorem dX1_letters_5 : decode cX1_letters 5 = .ok (.iload_n 1, 1) := by decide +kernel
theorem dX1_letters_6 : decode cX1_letters 6 = .ok (.iconst 1, 1) := by decide +kernel
theorem dX1_letters_7 : decode cX1_letters 7 = .ok (.sipush 3000, 3) := by decide +kernel
theorem dX1_letters_10 : decode cX1_letters 10 = .ok (.invokestatic 27, 3) := by decide +kernel
theorem dX1_letters_13 : decode cX1_letters 13 = .ok (.ifCond .ne 9, 3) := by decide +kernel
theorem dX1_letters_16 : decode cX1_letters 16 = .ok (.aload_n 0, 1) := by decide +kernel
theorem dX1_letters_17 : decode cX1_letters 17 = .ok (.iconst 1, 1) := by decide +kernel
theorem dX1_letters_18 : decode cX1_letters 18 = .ok (.invokevirtual 31, 3) := by decide +kernel
theorem dX1_letters_21 : decode cX1_letters 21 = .ok (.ireturn, 1) := by decide +kernel
theorem dX1_letters_22 : decode cX1_letters 22 = .ok (.aload_n 0, 1) := by decide +kernel
theorem dX1_letters_23 : decode cX1_letters 23 = .ok (.iload_n 1, 1) := by decide +kernel
theorem dX1_letters_24 : decode cX1_letters 24 = .ok (.invokevirtual 100, 3) := by decide +kernel
theorem dX1_letters_27 : decode cX1_letters 27 = .ok (.iload_n 1, 1) := by decide +kernel
theorem dX1_letters_28 : decode cX1_letters 28 = .ok (.iaload, 1) := by decide +kernel
theorem dX1_letters_29 : decode cX1_letters 29 = .ok (.istore_n 2, 1) := by decide +kernel
theorem dX1_letters_30 : decode cX1_letters 30 = .ok (.iload_n 2, 1) := by decide +kernel
theorem dX1_letters_31 : decode cX1_letters 31 = .ok (.sipush 9999, 3) := by decide +kernel
theorem dX1_letters_34 : decode cX1_letters 34 = .ok (.if_icmp .lt 7, 3) := by decide +kernel
theorem dX1_letters_37 : decode cX1_letters 37 = .ok (.iconst (-1), 1) := by decide +kernel
theorem dX1_letters_38 : decode cX1_letters 38 = .ok (.goto 4, 3) := by decide +kernel
theorem dX1_letters_41 : decode cX1_letters 41 = .ok (.iload_n 2, 1) := by decide +kernel
theorem dX1_letters_42 : decode cX1_letters 42 = .ok (.ireturn, 1) := by decide +kernel
set_option maxRecDepth 20000 in
theorem ggX1_spell_X1_isIn : GoodIn wsX1_spell wsX1_isIn := goodIn_r _ [5] (by decide +kernel) (by decide +kernel)
set_option maxRecDepth 20000 in
theorem gX1_spell_X1_isIn : GoodIn wsX1_spell (va_wsS RX1 27 yX1_isIn wsX1_isIn) := goodIn_app (goodIn_of _ (by decide +kernel)) ggX1_spell_X1_isIn
set_option maxRecDepth 20000 in
theorem ggX1_spell_X1_fail : GoodIn wsX1_spell wsX1_fail := goodIn_r _ [9, 1, 24, 25, 26, 27, 28, 29] (by decide +kernel) (by decide +kernel)
set_option maxRecDepth 20000 in
theorem gX1_spell_X1_fail : GoodIn wsX1_spell (wsV RX1 31 RX1 yX1_fail wsX1_fail) := goodIn_app (goodIn_of _ (by decide +kernel)) ggX1_spell_X1_fail
set_option maxRecDepth 20000 in
theorem ggX1_spell_X1_fewest : GoodIn wsX1_spell wsX1_fewest := goodIn_r _ [13, 14, 15, 16, 17, 18, 19, 20, 21, 4, 22, 23, 24, 25, 26, 27, 28, 29] (by decide +kernel) (by decide +kernel)
set_option maxRecDepth 20000 in
theorem gX1_spell_X1_fewest : GoodIn wsX1_spell (wsV RX1 100 RX1 yX1_fewest wsX1_fewest) := goodIn_app (goodIn_of _ (by decide +kernel)) ggX1_spell_X1_fewest
set_option maxRecDepth 20000 in
theorem ggX1_spell_X1_valueOf : GoodIn wsX1_spell wsX1_valueOf := goodIn_r _ [22, 23, 24, 25, 26, 27, 28, 29] (by decide +kernel) (by decide +kernel)
set_option maxRecDepth 20000 in
theorem gX1_spell_X1_valueOf : GoodIn wsX1_spell (wsV RX1 38 RX1 yX1_valueOf wsX1_valueOf) := goodIn_app (goodIn_of _ (by decide +kernel)) ggX1_spell_X1_valueOf
theorem dX1_spell_0 : decode cX1_spell 0 = .ok (.aload_n 0, 1) := by decide +kernel
theorem dX1_spell_1 : decode cX1_spell 1 = .ok (.iconst 0, 1) := by decide +kernel
theorem dX1_spell_2 : decode cX1_spell 2 = .ok (.putfield 20, 3) := by decide +kernel
theorem dX1_spell_5 : decode cX1_spell 5 = .ok (.iload_n 1, 1) := by decide +kernel
theorem dX1_spell_6 : decode cX1_spell 6 = .ok (.iconst 1, 1) := by decide +kernel
theorem dX1_spell_7 : decode cX1_spell 7 = .ok (.sipush 3000, 3) := by decide +kernel
theorem dX1_spell_10 : decode cX1_spell 10 = .ok (.invokestatic 27, 3) := by decide +kernel
theorem dX1_spell_13 : decode cX1_spell 13 = .ok (.ifCond .ne 9, 3) := by decide +kernel
theorem dX1_spell_16 : decode cX1_spell 16 = .ok (.aload_n 0, 1) := by decide +kernel
theorem dX1_spell_17 : decode cX1_spell 17 = .ok (.iconst 1, 1) := by decide +kernel
theorem dX1_spell_18 : decode cX1_spell 18 = .ok (.invokevirtual 31, 3) := by decide +kernel
theorem dX1_spell_21 : decode cX1_spell 21 = .ok (.ireturn, 1) := by decide +kernel
theorem dX1_spell_22 : decode cX1_spell 22 = .ok (.iload_n 2, 1) := by decide +kernel
theorem dX1_spell_23 : decode cX1_spell 23 = .ok (.ifCond .ge 9, 3) := by decide +kernel
theorem dX1_spell_26 : decode cX1_spell 26 = .ok (.aload_n 0, 1) := by decide +kernel
theorem dX1_spell_27 : decode cX1_spell 27 = .ok (.iconst 2, 1) := by decide +kernel
theorem dX1_spell_28 : decode cX1_spell 28 = .ok (.invokevirtual 31, 3) := by decide +kernel
theorem dX1_spell_31 : decode cX1_spell 31 = .ok (.ireturn, 1) := by decide +kernel
theorem dX1_spell_32 : decode cX1_spell 32 = .ok (.aload_n 0, 1) := by decide +kernel
theorem dX1_spell_33 : decode cX1_spell 33 = .ok (.iload_n 1, 1) := by decide +kernel
theorem dX1_spell_34 : decode cX1_spell 34 = .ok (.invokevirtual 100, 3) := by decide +kernel
theorem dX1_spell_37 : decode cX1_spell 37 = .ok (.astore_n 3, 1) := by decide +kernel
theorem dX1_spell_38 : decode cX1_spell 38 = .ok (.aload_n 3, 1) := by decide +kernel
theorem dX1_spell_39 : decode cX1_spell 39 = .ok (.iload_n 1, 1) := by decide +kernel
theorem dX1_spell_40 : decode cX1_spell 40 = .ok (.iaload, 1) := by decide +kernel
theorem dX1_spell_41 : decode cX1_spell 41 = .ok (.sipush 9999, 3) := by decide +kernel
theorem dX1_spell_44 : decode cX1_spell 44 = .ok (.if_icmp .ge 10, 3) := by decide +kernel
theorem dX1_spell_47 : decode cX1_spell 47 = .ok (.iload_n 2, 1) := by decide +kernel
theorem dX1_spell_48 : decode cX1_spell 48 = .ok (.aload_n 3, 1) := by decide +kernel
theorem dX1_spell_49 : decode cX1_spell 49 = .ok (.iload_n 1, 1) := by decide +kernel
theorem dX1_spell_50 : decode cX1_spell 50 = .ok (.iaload, 1) := by decide +kernel
theorem dX1_spell_51 : decode cX1_spell 51 = .ok (.if_icmp .lt 5, 3) := by decide +kernel
theorem dX1_spell_54 : decode cX1_spell 54 = .ok (.iconst 0, 1) := by decide +kernel
theorem dX1_spell_55 : decode cX1_spell 55 = .ok (.ireturn, 1) := by decide +kernel
theorem dX1_spell_56 : decode cX1_spell 56 = .ok (.iload_n 1, 1) := by decide +kernel
theorem dX1_spell_57 : decode cX1_spell 57 = .ok (.istore 4, 2) := by decide +kernel
theorem dX1_spell_59 : decode cX1_spell 59 = .ok (.iconst 0, 1) := by decide +kernel
theorem dX1_spell_60 : decode cX1_spell 60 = .ok (.istore 5, 2) := by decide +kernel
theorem dX1_spell_62 : decode cX1_spell 62 = .ok (.iconst 0, 1) := by decide +kernel
theorem dX1_spell_63 : decode cX1_spell 63 = .ok (.istore 6, 2) := by decide +kernel
theorem dX1_spell_65 : decode cX1_spell 65 = .ok (.iload 6, 2) := by decide +kernel
theorem dX1_spell_67 : decode cX1_spell 67 = .ok (.iload_n 2, 1) := by decide +kernel
theorem dX1_spell_68 : decode cX1_spell 68 = .ok (.if_icmp .gt 61, 3) := by decide +kernel
theorem dX1_spell_71 : decode cX1_spell 71 = .ok (.bipush 26, 2) := by decide +kernel
theorem dX1_spell_73 : decode cX1_spell 73 = .ok (.istore 5, 2) := by decide +kernel
theorem dX1_spell_75 : decode cX1_spell 75 = .ok (.aload_n 0, 1) := by decide +kernel
theorem dX1_spell_76 : decode cX1_spell 76 = .ok (.iload 5, 2) := by decide +kernel
theorem dX1_spell_78 : decode cX1_spell 78 = .ok (.invokevirtual 38, 3) := by decide +kernel
theorem dX1_spell_81 : decode cX1_spell 81 = .ok (.iload 4, 2) := by decide +kernel
theorem dX1_spell_83 : decode cX1_spell 83 = .ok (.if_icmp .gt 23, 3) := by decide +kernel
theorem dX1_spell_86 : decode cX1_spell 86 = .ok (.aload_n 3, 1) := by decide +kernel
theorem dX1_spell_87 : decode cX1_spell 87 = .ok (.iload 4, 2) := by decide +kernel
theorem dX1_spell_89 : decode cX1_spell 89 = .ok (.aload_n 0, 1) := by decide +kernel
theorem dX1_spell_90 : decode cX1_spell 90 = .ok (.iload 5, 2) := by decide +kernel
theorem dX1_spell_92 : decode cX1_spell 92 = .ok (.invokevirtual 38, 3) := by decide +kernel
theorem dX1_spell_95 : decode cX1_spell 95 = .ok (.isub, 1) := by decide +kernel
theorem dX1_spell_96 : decode cX1_spell 96 = .ok (.iaload, 1) := by decide +kernel
theorem dX1_spell_97 : decode cX1_spell 97 = .ok (.iconst 1, 1) := by decide +kernel
theorem dX1_spell_98 : decode cX1_spell 98 = .ok (.iadd, 1) := by decide +kernel
theorem dX1_spell_99 : decode cX1_spell 99 = .ok (.aload_n 3, 1) := by decide +kernel
theorem dX1_spell_100 : decode cX1_spell 100 = .ok (.iload 4, 2) := by decide +kernel
theorem dX1_spell_102 : decode cX1_spell 102 = .ok (.iaload, 1) := by decide +kernel
theorem dX1_spell_103 : decode cX1_spell 103 = .ok (.if_icmp .eq 9, 3) := by decide +kernel
theorem dX1_spell_106 : decode cX1_spell 106 = .ok (.iinc 5 (-1), 3) := by decide +kernel
theorem dX1_spell_109 : decode cX1_spell 109 = .ok (.goto (-34), 3) := by decide +kernel
theorem dX1_spell_112 : decode cX1_spell 112 = .ok (.iload 4, 2) := by decide +kernel
theorem dX1_spell_114 : decode cX1_spell 114 = .ok (.aload_n 0, 1) := by decide +kernel
theorem dX1_spell_115 : decode cX1_spell 115 = .ok (.iload 5, 2) := by decide +kernel
theorem dX1_spell_117 : decode cX1_spell 117 = .ok (.invokevirtual 38, 3) := by decide +kernel
theorem dX1_spell_120 : decode cX1_spell 120 = .ok (.isub, 1) := by decide +kernel
theorem dX1_spell_121 : decode cX1_spell 121 = .ok (.istore 4, 2) := by decide +kernel
theorem dX1_spell_123 : decode cX1_spell 123 = .ok (.iinc 6 1, 3) := by decide +kernel
theorem dX1_spell_126 : decode cX1_spell 126 = .ok (.goto (-61), 3) := by decide +kernel
theorem dX1_spell_129 : decode cX1_spell 129 = .ok (.iload 5, 2) := by decide +kernel
theorem dX1_spell_131 : decode cX1_spell 131 = .ok (.ireturn, 1) := by decide +kernel
set_option maxRecDepth 20000 in
theorem ggX1_mean_X1_all : GoodIn wsX1_mean wsX1_all := goodIn_r _ [6, 7, 8, 9, 10, 5, 11, 12, 13, 14, 15, 16, 17, 18, 19, 20, 21, 22, 23, 24, 25, 26, 27, 28, 29, 30, 31, 32, 33, 34, 35, 36, 37, 38, 39, 40, 41, 42, 43, 44, 45, 46, 47] (by decide +kernel) (by decide +kernel)
set_option maxRecDepth 20000 in
theorem gX1_mean_X1_all : GoodIn wsX1_mean (wsV RX1 82 RX1 yX1_all wsX1_all) := goodIn_app (goodIn_of _ (by decide +kernel)) ggX1_mean_X1_all
theorem dX1_mean_0 : decode cX1_mean 0 = .ok (.aload_n 0, 1) := by decide +kernel
theorem dX1_mean_1 : decode cX1_mean 1 = .ok (.iconst 0, 1) := by decide +kernel
theorem dX1_mean_2 : decode cX1_mean 2 = .ok (.putfield 20, 3) := by decide +kernel
theorem dX1_mean_5 : decode cX1_mean 5 = .ok (.aload_n 0, 1) := by decide +kernel
theorem dX1_mean_6 : decode cX1_mean 6 = .ok (.iconst 0, 1) := by decide +kernel
theorem dX1_mean_7 : decode cX1_mean 7 = .ok (.invokevirtual 82, 3) := by decide +kernel
theorem dX1_mean_10 : decode cX1_mean 10 = .ok (.ifCond .ne 7, 3) := by decide +kernel
theorem dX1_mean_13 : decode cX1_mean 13 = .ok (.dconst 0, 1) := by decide +kernel
theorem dX1_mean_14 : decode cX1_mean 14 = .ok (.goto 16, 3) := by decide +kernel
theorem dX1_mean_17 : decode cX1_mean 17 = .ok (.aload_n 0, 1) := by decide +kernel
theorem dX1_mean_18 : decode cX1_mean 18 = .ok (.iconst 2, 1) := by decide +kernel
theorem dX1_mean_19 : decode cX1_mean 19 = .ok (.invokevirtual 82, 3) := by decide +kernel
theorem dX1_mean_22 : decode cX1_mean 22 = .ok (.i2d, 1) := by decide +kernel
theorem dX1_mean_23 : decode cX1_mean 23 = .ok (.aload_n 0, 1) := by decide +kernel
theorem dX1_mean_24 : decode cX1_mean 24 = .ok (.iconst 0, 1) := by decide +kernel
theorem dX1_mean_25 : decode cX1_mean 25 = .ok (.invokevirtual 82, 3) := by decide +kernel
theorem dX1_mean_28 : decode cX1_mean 28 = .ok (.i2d, 1) := by decide +kernel
theorem dX1_mean_29 : decode cX1_mean 29 = .ok (.ddiv, 1) := by decide +kernel
theorem dX1_mean_30 : decode cX1_mean 30 = .ok (.dreturn, 1) := by decide +kernel
set_option maxRecDepth 20000 in
theorem ggX1_digest_X1_toldOf : GoodIn wsX1_digest wsX1_toldOf := goodIn_r _ [11, 5, 12, 13, 14, 10, 15, 16, 17, 18, 19, 20, 6, 21, 22, 23, 24, 25, 26, 27, 28, 29, 30, 31, 32, 33, 34, 35, 36, 37, 38, 39, 40, 41, 3, 42, 43, 44, 45, 46, 47, 48, 49, 50, 51, 52, 53, 54, 55, 56, 57, 58, 59, 60, 61, 62, 63, 64, 65, 66, 67, 68] (by decide +kernel) (by decide +kernel)
set_option maxRecDepth 20000 in
theorem gX1_digest_X1_toldOf : GoodIn wsX1_digest (wsV RX1 85 RX1 yX1_toldOf wsX1_toldOf) := goodIn_app (goodIn_of _ (by decide +kernel)) ggX1_digest_X1_toldOf
set_option maxRecDepth 20000 in
theorem ggX1_digest_X1_lineTold : GoodIn wsX1_digest wsX1_lineTold := goodIn_r _ [49, 6, 50, 51, 52, 10, 53, 54, 55, 56, 57, 58, 16, 32, 33, 34, 28, 29, 30, 31, 35, 36, 37, 38, 39, 40, 41, 3, 59, 60, 61, 62, 63, 64, 65, 66, 67, 68] (by decide +kernel) (by decide +kernel)
set_option maxRecDepth 20000 in
theorem gX1_digest_X1_lineTold : GoodIn wsX1_digest (wsV RX1 75 RX1 yX1_lineTold wsX1_lineTold) := goodIn_app (goodIn_of _ (by decide +kernel)) ggX1_digest_X1_lineTold
set_option maxRecDepth 20000 in
theorem ggX1_digest_X1_wordTold : GoodIn wsX1_digest wsX1_wordTold := goodIn_r _ [53, 54, 55, 56, 57, 10, 58, 16, 32, 33, 34, 28, 29, 30, 31, 35, 36, 37, 38, 39, 40, 41, 3, 59, 60, 61, 62, 63, 64, 65, 66, 67, 68] (by decide +kernel) (by decide +kernel)
set_option maxRecDepth 20000 in
theorem gX1_digest_X1_wordTold : GoodIn wsX1_digest (wsV RX1 71 RX1 yX1_wordTold wsX1_wordTold) := goodIn_app (goodIn_of _ (by decide +kernel)) ggX1_digest_X1_wordTold
theorem dX1_digest_0 : decode cX1_digest 0 = .ok (.aload_n 0, 1) := by decide +kernel
theorem dX1_digest_1 : decode cX1_digest 1 = .ok (.iconst 0, 1) := by decide +kernel
theorem dX1_digest_2 : decode cX1_digest 2 = .ok (.putfield 20, 3) := by decide +kernel
theorem dX1_digest_5 : decode cX1_digest 5 = .ok (.ldc2_w 104, 3) := by decide +kernel
theorem dX1_digest_8 : decode cX1_digest 8 = .ok (.aload_n 0, 1) := by decide +kernel
theorem dX1_digest_9 : decode cX1_digest 9 = .ok (.getfield 35, 3) := by decide +kernel
theorem dX1_digest_12 : decode cX1_digest 12 = .ok (.i2l, 1) := by decide +kernel
theorem dX1_digest_13 : decode cX1_digest 13 = .ok (.ladd, 1) := by decide +kernel
theorem dX1_digest_14 : decode cX1_digest 14 = .ok (.lstore_n 1, 1) := by decide +kernel
theorem dX1_digest_15 : decode cX1_digest 15 = .ok (.iconst 0, 1) := by decide +kernel
theorem dX1_digest_16 : decode cX1_digest 16 = .ok (.istore_n 3, 1) := by decide +kernel
theorem dX1_digest_17 : decode cX1_digest 17 = .ok (.iload_n 3, 1) := by decide +kernel
theorem dX1_digest_18 : decode cX1_digest 18 = .ok (.bipush 7, 2) := by decide +kernel
theorem dX1_digest_20 : decode cX1_digest 20 = .ok (.if_icmp .ge 22, 3) := by decide +kernel
theorem dX1_digest_23 : decode cX1_digest 23 = .ok (.lload_n 1, 1) := by decide +kernel
theorem dX1_digest_24 : decode cX1_digest 24 = .ok (.ldc2_w 106, 3) := by decide +kernel
theorem dX1_digest_27 : decode cX1_digest 27 = .ok (.lmul, 1) := by decide +kernel
theorem dX1_digest_28 : decode cX1_digest 28 = .ok (.aload_n 0, 1) := by decide +kernel
theorem dX1_digest_29 : decode cX1_digest 29 = .ok (.iload_n 3, 1) := by decide +kernel
theorem dX1_digest_30 : decode cX1_digest 30 = .ok (.invokevirtual 85, 3) := by decide +kernel
theorem dX1_digest_33 : decode cX1_digest 33 = .ok (.i2l, 1) := by decide +kernel
theorem dX1_digest_34 : decode cX1_digest 34 = .ok (.ladd, 1) := by decide +kernel
theorem dX1_digest_35 : decode cX1_digest 35 = .ok (.lstore_n 1, 1) := by decide +kernel
theorem dX1_digest_36 : decode cX1_digest 36 = .ok (.iinc 3 1, 3) := by decide +kernel
theorem dX1_digest_39 : decode cX1_digest 39 = .ok (.goto (-22), 3) := by decide +kernel
theorem dX1_digest_42 : decode cX1_digest 42 = .ok (.iconst 0, 1) := by decide +kernel
theorem dX1_digest_43 : decode cX1_digest 43 = .ok (.istore_n 3, 1) := by decide +kernel
theorem dX1_digest_44 : decode cX1_digest 44 = .ok (.iload_n 3, 1) := by decide +kernel
theorem dX1_digest_45 : decode cX1_digest 45 = .ok (.aload_n 0, 1) := by decide +kernel
theorem dX1_digest_46 : decode cX1_digest 46 = .ok (.getfield 24, 3) := by decide +kernel
theorem dX1_digest_49 : decode cX1_digest 49 = .ok (.if_icmp .ge 91, 3) := by decide +kernel
theorem dX1_digest_52 : decode cX1_digest 52 = .ok (.iconst 0, 1) := by decide +kernel
theorem dX1_digest_53 : decode cX1_digest 53 = .ok (.istore 4, 2) := by decide +kernel
theorem dX1_digest_55 : decode cX1_digest 55 = .ok (.iload 4, 2) := by decide +kernel
theorem dX1_digest_57 : decode cX1_digest 57 = .ok (.iconst 5, 1) := by decide +kernel
theorem dX1_digest_58 : decode cX1_digest 58 = .ok (.if_icmp .ge 24, 3) := by decide +kernel
theorem dX1_digest_61 : decode cX1_digest 61 = .ok (.lload_n 1, 1) := by decide +kernel
theorem dX1_digest_62 : decode cX1_digest 62 = .ok (.ldc2_w 106, 3) := by decide +kernel
theorem dX1_digest_65 : decode cX1_digest 65 = .ok (.lmul, 1) := by decide +kernel
theorem dX1_digest_66 : decode cX1_digest 66 = .ok (.aload_n 0, 1) := by decide +kernel
theorem dX1_digest_67 : decode cX1_digest 67 = .ok (.iload_n 3, 1) := by decide +kernel
theorem dX1_digest_68 : decode cX1_digest 68 = .ok (.iload 4, 2) := by decide +kernel
theorem dX1_digest_70 : decode cX1_digest 70 = .ok (.invokevirtual 75, 3) := by decide +kernel
theorem dX1_digest_73 : decode cX1_digest 73 = .ok (.i2l, 1) := by decide +kernel
theorem dX1_digest_74 : decode cX1_digest 74 = .ok (.ladd, 1) := by decide +kernel
theorem dX1_digest_75 : decode cX1_digest 75 = .ok (.lstore_n 1, 1) := by decide +kernel
theorem dX1_digest_76 : decode cX1_digest 76 = .ok (.iinc 4 1, 3) := by decide +kernel
theorem dX1_digest_79 : decode cX1_digest 79 = .ok (.goto (-24), 3) := by decide +kernel
theorem dX1_digest_82 : decode cX1_digest 82 = .ok (.iconst 0, 1) := by decide +kernel
theorem dX1_digest_83 : decode cX1_digest 83 = .ok (.istore 4, 2) := by decide +kernel
theorem dX1_digest_85 : decode cX1_digest 85 = .ok (.iload 4, 2) := by decide +kernel
theorem dX1_digest_87 : decode cX1_digest 87 = .ok (.aload_n 0, 1) := by decide +kernel
theorem dX1_digest_88 : decode cX1_digest 88 = .ok (.getfield 9, 3) := by decide +kernel
theorem dX1_digest_91 : decode cX1_digest 91 = .ok (.iload_n 3, 1) := by decide +kernel
theorem dX1_digest_92 : decode cX1_digest 92 = .ok (.iaload, 1) := by decide +kernel
theorem dX1_digest_93 : decode cX1_digest 93 = .ok (.if_icmp .ge 41, 3) := by decide +kernel
theorem dX1_digest_96 : decode cX1_digest 96 = .ok (.iconst 0, 1) := by decide +kernel
theorem dX1_digest_97 : decode cX1_digest 97 = .ok (.istore 5, 2) := by decide +kernel
theorem dX1_digest_99 : decode cX1_digest 99 = .ok (.iload 5, 2) := by decide +kernel
theorem dX1_digest_101 : decode cX1_digest 101 = .ok (.iconst 5, 1) := by decide +kernel
theorem dX1_digest_102 : decode cX1_digest 102 = .ok (.if_icmp .ge 26, 3) := by decide +kernel
theorem dX1_digest_105 : decode cX1_digest 105 = .ok (.lload_n 1, 1) := by decide +kernel
theorem dX1_digest_106 : decode cX1_digest 106 = .ok (.ldc2_w 106, 3) := by decide +kernel
theorem dX1_digest_109 : decode cX1_digest 109 = .ok (.lmul, 1) := by decide +kernel
theorem dX1_digest_110 : decode cX1_digest 110 = .ok (.aload_n 0, 1) := by decide +kernel
theorem dX1_digest_111 : decode cX1_digest 111 = .ok (.iload_n 3, 1) := by decide +kernel
theorem dX1_digest_112 : decode cX1_digest 112 = .ok (.iload 4, 2) := by decide +kernel
theorem dX1_digest_114 : decode cX1_digest 114 = .ok (.iload 5, 2) := by decide +kernel
theorem dX1_digest_116 : decode cX1_digest 116 = .ok (.invokevirtual 71, 3) := by decide +kernel
theorem dX1_digest_119 : decode cX1_digest 119 = .ok (.i2l, 1) := by decide +kernel
theorem dX1_digest_120 : decode cX1_digest 120 = .ok (.ladd, 1) := by decide +kernel
theorem dX1_digest_121 : decode cX1_digest 121 = .ok (.lstore_n 1, 1) := by decide +kernel
theorem dX1_digest_122 : decode cX1_digest 122 = .ok (.iinc 5 1, 3) := by decide +kernel
theorem dX1_digest_125 : decode cX1_digest 125 = .ok (.goto (-26), 3) := by decide +kernel
theorem dX1_digest_128 : decode cX1_digest 128 = .ok (.iinc 4 1, 3) := by decide +kernel
theorem dX1_digest_131 : decode cX1_digest 131 = .ok (.goto (-46), 3) := by decide +kernel
theorem dX1_digest_134 : decode cX1_digest 134 = .ok (.iinc 3 1, 3) := by decide +kernel
theorem dX1_digest_137 : decode cX1_digest 137 = .ok (.goto (-93), 3) := by decide +kernel
theorem dX1_digest_140 : decode cX1_digest 140 = .ok (.lload_n 1, 1) := by decide +kernel
theorem dX1_digest_141 : decode cX1_digest 141 = .ok (.lreturn, 1) := by decide +kernel
theorem dJ6_bitCount_0f7a4_0 : decode cJ6_bitCount_0f7a4 0 = .ok (.iload_n 0, 1) := by decide +kernel
theorem dJ6_bitCount_0f7a4_1 : decode cJ6_bitCount_0f7a4 1 = .ok (.iload_n 0, 1) := by decide +kernel
theorem dJ6_bitCount_0f7a4_2 : decode cJ6_bitCount_0f7a4 2 = .ok (.iconst 1, 1) := by decide +kernel
theorem dJ6_bitCount_0f7a4_3 : decode cJ6_bitCount_0f7a4 3 = .ok (.iushr, 1) := by decide +kernel
theorem dJ6_bitCount_0f7a4_4 : decode cJ6_bitCount_0f7a4 4 = .ok (.ldc_w 265, 3) := by decide +kernel
theorem dJ6_bitCount_0f7a4_7 : decode cJ6_bitCount_0f7a4 7 = .ok (.iand, 1) := by decide +kernel
theorem dJ6_bitCount_0f7a4_8 : decode cJ6_bitCount_0f7a4 8 = .ok (.isub, 1) := by decide +kernel
theorem dJ6_bitCount_0f7a4_9 : decode cJ6_bitCount_0f7a4 9 = .ok (.istore_n 0, 1) := by decide +kernel
theorem dJ6_bitCount_0f7a4_10 : decode cJ6_bitCount_0f7a4 10 = .ok (.iload_n 0, 1) := by decide +kernel
theorem dJ6_bitCount_0f7a4_11 : decode cJ6_bitCount_0f7a4 11 = .ok (.ldc_w 266, 3) := by decide +kernel
theorem dJ6_bitCount_0f7a4_14 : decode cJ6_bitCount_0f7a4 14 = .ok (.iand, 1) := by decide +kernel
theorem dJ6_bitCount_0f7a4_15 : decode cJ6_bitCount_0f7a4 15 = .ok (.iload_n 0, 1) := by decide +kernel
theorem dJ6_bitCount_0f7a4_16 : decode cJ6_bitCount_0f7a4 16 = .ok (.iconst 2, 1) := by decide +kernel
theorem dJ6_bitCount_0f7a4_17 : decode cJ6_bitCount_0f7a4 17 = .ok (.iushr, 1) := by decide +kernel
theorem dJ6_bitCount_0f7a4_18 : decode cJ6_bitCount_0f7a4 18 = .ok (.ldc_w 266, 3) := by decide +kernel
theorem dJ6_bitCount_0f7a4_21 : decode cJ6_bitCount_0f7a4 21 = .ok (.iand, 1) := by decide +kernel
theorem dJ6_bitCount_0f7a4_22 : decode cJ6_bitCount_0f7a4 22 = .ok (.iadd, 1) := by decide +kernel
theorem dJ6_bitCount_0f7a4_23 : decode cJ6_bitCount_0f7a4 23 = .ok (.istore_n 0, 1) := by decide +kernel
theorem dJ6_bitCount_0f7a4_24 : decode cJ6_bitCount_0f7a4 24 = .ok (.iload_n 0, 1) := by decide +kernel
theorem dJ6_bitCount_0f7a4_25 : decode cJ6_bitCount_0f7a4 25 = .ok (.iload_n 0, 1) := by decide +kernel
theorem dJ6_bitCount_0f7a4_26 : decode cJ6_bitCount_0f7a4 26 = .ok (.iconst 4, 1) := by decide +kernel
theorem dJ6_bitCount_0f7a4_27 : decode cJ6_bitCount_0f7a4 27 = .ok (.iushr, 1) := by decide +kernel
theorem dJ6_bitCount_0f7a4_28 : decode cJ6_bitCount_0f7a4 28 = .ok (.iadd, 1) := by decide +kernel
theorem dJ6_bitCount_0f7a4_29 : decode cJ6_bitCount_0f7a4 29 = .ok (.ldc_w 267, 3) := by decide +kernel
theorem dJ6_bitCount_0f7a4_32 : decode cJ6_bitCount_0f7a4 32 = .ok (.iand, 1) := by decide +kernel
theorem dJ6_bitCount_0f7a4_33 : decode cJ6_bitCount_0f7a4 33 = .ok (.istore_n 0, 1) := by decide +kernel
theorem dJ6_bitCount_0f7a4_34 : decode cJ6_bitCount_0f7a4 34 = .ok (.iload_n 0, 1) := by decide +kernel
theorem dJ6_bitCount_0f7a4_35 : decode cJ6_bitCount_0f7a4 35 = .ok (.iload_n 0, 1) := by decide +kernel
theorem dJ6_bitCount_0f7a4_36 : decode cJ6_bitCount_0f7a4 36 = .ok (.bipush 8, 2) := by decide +kernel
theorem dJ6_bitCount_0f7a4_38 : decode cJ6_bitCount_0f7a4 38 = .ok (.iushr, 1) := by decide +kernel
theorem dJ6_bitCount_0f7a4_39 : decode cJ6_bitCount_0f7a4 39 = .ok (.iadd, 1) := by decide +kernel
theorem dJ6_bitCount_0f7a4_40 : decode cJ6_bitCount_0f7a4 40 = .ok (.istore_n 0, 1) := by decide +kernel
theorem dJ6_bitCount_0f7a4_41 : decode cJ6_bitCount_0f7a4 41 = .ok (.iload_n 0, 1) := by decide +kernel
theorem dJ6_bitCount_0f7a4_42 : decode cJ6_bitCount_0f7a4 42 = .ok (.iload_n 0, 1) := by decide +kernel
theorem dJ6_bitCount_0f7a4_43 : decode cJ6_bitCount_0f7a4 43 = .ok (.bipush 16, 2) := by decide +kernel
theorem dJ6_bitCount_0f7a4_45 : decode cJ6_bitCount_0f7a4 45 = .ok (.iushr, 1) := by decide +kernel
theorem dJ6_bitCount_0f7a4_46 : decode cJ6_bitCount_0f7a4 46 = .ok (.iadd, 1) := by decide +kernel
theorem dJ6_bitCount_0f7a4_47 : decode cJ6_bitCount_0f7a4 47 = .ok (.istore_n 0, 1) := by decide +kernel
theorem dJ6_bitCount_0f7a4_48 : decode cJ6_bitCount_0f7a4 48 = .ok (.iload_n 0, 1) := by decide +kernel
theorem dJ6_bitCount_0f7a4_49 : decode cJ6_bitCount_0f7a4 49 = .ok (.bipush 63, 2) := by decide +kernel
theorem dJ6_bitCount_0f7a4_51 : decode cJ6_bitCount_0f7a4 51 = .ok (.iand, 1) := by decide +kernel
theorem dJ6_bitCount_0f7a4_52 : decode cJ6_bitCount_0f7a4 52 = .ok (.ireturn, 1) := by decide +kernel
theorem dJ9_abs_067f4_0 : decode cJ9_abs_067f4 0 = .ok (.lload_n 0, 1) := by decide +kernel
theorem dJ9_abs_067f4_1 : decode cJ9_abs_067f4 1 = .ok (.lconst 0, 1) := by decide +kernel
theorem dJ9_abs_067f4_2 : decode cJ9_abs_067f4 2 = .ok (.lcmp, 1) := by decide +kernel
theorem dJ9_abs_067f4_3 : decode cJ9_abs_067f4 3 = .ok (.ifCond .ge 8, 3) := by decide +kernel
theorem dJ9_abs_067f4_6 : decode cJ9_abs_067f4 6 = .ok (.lload_n 0, 1) := by decide +kernel
theorem dJ9_abs_067f4_7 : decode cJ9_abs_067f4 7 = .ok (.lneg, 1) := by decide +kernel
theorem dJ9_abs_067f4_8 : decode cJ9_abs_067f4 8 = .ok (.goto 4, 3) := by decide +kernel
theorem dJ9_abs_067f4_11 : decode cJ9_abs_067f4 11 = .ok (.lload_n 0, 1) := by decide +kernel
theorem dJ9_abs_067f4_12 : decode cJ9_abs_067f4 12 = .ok (.lreturn, 1) := by decide +kernel
theorem dJ9_min_7cf53_0 : decode cJ9_min_7cf53 0 = .ok (.iload_n 0, 1) := by decide +kernel
theorem dJ9_min_7cf53_1 : decode cJ9_min_7cf53 1 = .ok (.iload_n 1, 1) := by decide +kernel
theorem dJ9_min_7cf53_2 : decode cJ9_min_7cf53 2 = .ok (.if_icmp .gt 7, 3) := by decide +kernel
theorem dJ9_min_7cf53_5 : decode cJ9_min_7cf53 5 = .ok (.iload_n 0, 1) := by decide +kernel
theorem dJ9_min_7cf53_6 : decode cJ9_min_7cf53 6 = .ok (.goto 4, 3) := by decide +kernel
theorem dJ9_min_7cf53_9 : decode cJ9_min_7cf53 9 = .ok (.iload_n 1, 1) := by decide +kernel
theorem dJ9_min_7cf53_10 : decode cJ9_min_7cf53 10 = .ok (.ireturn, 1) := by decide +kernel
