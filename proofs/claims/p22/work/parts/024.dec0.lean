theorem dX0_init_0 : decode cX0_init 0 = .ok (.aload_n 0, 1) := by decide +kernel
theorem dX0_init_1 : decode cX0_init 1 = .ok (.invokespecial 1, 3) := by decide +kernel
theorem dX0_init_4 : decode cX0_init 4 = .ok (.aload_n 0, 1) := by decide +kernel
theorem dX0_init_5 : decode cX0_init 5 = .ok (.iconst 0, 1) := by decide +kernel
theorem dX0_init_6 : decode cX0_init 6 = .ok (.putfield 9, 3) := by decide +kernel
theorem dX0_init_9 : decode cX0_init 9 = .ok (.aload_n 0, 1) := by decide +kernel
theorem dX0_init_10 : decode cX0_init 10 = .ok (.iconst 0, 1) := by decide +kernel
theorem dX0_init_11 : decode cX0_init 11 = .ok (.putfield 13, 3) := by decide +kernel
theorem dX0_init_14 : decode cX0_init 14 = .ok (.aload_n 0, 1) := by decide +kernel
theorem dX0_init_15 : decode cX0_init 15 = .ok (.bipush 12, 2) := by decide +kernel
theorem dX0_init_17 : decode cX0_init 17 = .ok (.newarray .int, 2) := by decide +kernel
theorem dX0_init_19 : decode cX0_init 19 = .ok (.putfield 16, 3) := by decide +kernel
theorem dX0_init_22 : decode cX0_init 22 = .ok (.aload_n 0, 1) := by decide +kernel
theorem dX0_init_23 : decode cX0_init 23 = .ok (.bipush 12, 2) := by decide +kernel
theorem dX0_init_25 : decode cX0_init 25 = .ok (.bipush 10, 2) := by decide +kernel
theorem dX0_init_27 : decode cX0_init 27 = .ok (.multianewarray 20 2, 4) := by decide +kernel
theorem dX0_init_31 : decode cX0_init 31 = .ok (.putfield 22, 3) := by decide +kernel
theorem dX0_init_34 : decode cX0_init 34 = .ok (.aload_n 0, 1) := by decide +kernel
theorem dX0_init_35 : decode cX0_init 35 = .ok (.bipush 12, 2) := by decide +kernel
theorem dX0_init_37 : decode cX0_init 37 = .ok (.bipush 10, 2) := by decide +kernel
theorem dX0_init_39 : decode cX0_init 39 = .ok (.multianewarray 20 2, 4) := by decide +kernel
theorem dX0_init_43 : decode cX0_init 43 = .ok (.putfield 25, 3) := by decide +kernel
theorem dX0_init_46 : decode cX0_init 46 = .ok (.aload_n 0, 1) := by decide +kernel
theorem dX0_init_47 : decode cX0_init 47 = .ok (.bipush 120, 2) := by decide +kernel
theorem dX0_init_49 : decode cX0_init 49 = .ok (.newarray .int, 2) := by decide +kernel
theorem dX0_init_51 : decode cX0_init 51 = .ok (.putfield 28, 3) := by decide +kernel
theorem dX0_init_54 : decode cX0_init 54 = .ok (.aload_n 0, 1) := by decide +kernel
theorem dX0_init_55 : decode cX0_init 55 = .ok (.iconst 3, 1) := by decide +kernel
theorem dX0_init_56 : decode cX0_init 56 = .ok (.sipush 3001, 3) := by decide +kernel
theorem dX0_init_59 : decode cX0_init 59 = .ok (.multianewarray 20 2, 4) := by decide +kernel
theorem dX0_init_63 : decode cX0_init 63 = .ok (.putfield 31, 3) := by decide +kernel
theorem dX0_init_66 : decode cX0_init 66 = .ok (.aload_n 0, 1) := by decide +kernel
theorem dX0_init_67 : decode cX0_init 67 = .ok (.iconst 3, 1) := by decide +kernel
theorem dX0_init_68 : decode cX0_init 68 = .ok (.newarray .boolean, 2) := by decide +kernel
theorem dX0_init_70 : decode cX0_init 70 = .ok (.putfield 34, 3) := by decide +kernel
theorem dX0_init_73 : decode cX0_init 73 = .ok (.return_, 1) := by decide +kernel
theorem dX0_count_0 : decode cX0_count 0 = .ok (.iload_n 1, 1) := by decide +kernel
theorem dX0_count_1 : decode cX0_count 1 = .ok (.ifCond .lt 8, 3) := by decide +kernel
theorem dX0_count_4 : decode cX0_count 4 = .ok (.iload_n 1, 1) := by decide +kernel
theorem dX0_count_5 : decode cX0_count 5 = .ok (.iconst 3, 1) := by decide +kernel
theorem dX0_count_6 : decode cX0_count 6 = .ok (.if_icmp .lt 13, 3) := by decide +kernel
theorem dX0_count_9 : decode cX0_count 9 = .ok (.new 38, 3) := by decide +kernel
theorem dX0_count_12 : decode cX0_count 12 = .ok (.dup, 1) := by decide +kernel
theorem dX0_count_13 : decode cX0_count 13 = .ok (.ldc 40, 2) := by decide +kernel
theorem dX0_count_15 : decode cX0_count 15 = .ok (.invokespecial 42, 3) := by decide +kernel
theorem dX0_count_18 : decode cX0_count 18 = .ok (.athrow, 1) := by decide +kernel
theorem dX0_count_19 : decode cX0_count 19 = .ok (.aload_n 0, 1) := by decide +kernel
theorem dX0_count_20 : decode cX0_count 20 = .ok (.getfield 9, 3) := by decide +kernel
theorem dX0_count_23 : decode cX0_count 23 = .ok (.istore_n 2, 1) := by decide +kernel
theorem dX0_count_24 : decode cX0_count 24 = .ok (.aload_n 0, 1) := by decide +kernel
theorem dX0_count_25 : decode cX0_count 25 = .ok (.iload_n 1, 1) := by decide +kernel
theorem dX0_count_26 : decode cX0_count 26 = .ok (.putfield 9, 3) := by decide +kernel
theorem dX0_count_29 : decode cX0_count 29 = .ok (.iload_n 2, 1) := by decide +kernel
theorem dX0_count_30 : decode cX0_count 30 = .ok (.ireturn, 1) := by decide +kernel
set_option maxRecDepth 20000 in
theorem ggX0_letter_X0_worthOfLetter : GoodIn wsX0_letter wsX0_worthOfLetter := goodIn_r _ [7, 8, 9, 10, 11, 12, 13, 14, 15, 16] (by decide +kernel) (by decide +kernel)
set_option maxRecDepth 20000 in
theorem gX0_letter_X0_worthOfLetter : GoodIn wsX0_letter (wsV RX0 47 RX0 yX0_worthOfLetter wsX0_worthOfLetter) := goodIn_app (goodIn_of _ (by decide +kernel)) ggX0_letter_X0_worthOfLetter
theorem dX0_letter_0 : decode cX0_letter 0 = .ok (.iload_n 1, 1) := by decide +kernel
theorem dX0_letter_1 : decode cX0_letter 1 = .ok (.iconst 1, 1) := by decide +kernel
theorem dX0_letter_2 : decode cX0_letter 2 = .ok (.if_icmp .lt 9, 3) := by decide +kernel
theorem dX0_letter_5 : decode cX0_letter 5 = .ok (.iload_n 1, 1) := by decide +kernel
theorem dX0_letter_6 : decode cX0_letter 6 = .ok (.bipush 26, 2) := by decide +kernel
theorem dX0_letter_8 : decode cX0_letter 8 = .ok (.if_icmp .le 13, 3) := by decide +kernel
theorem dX0_letter_11 : decode cX0_letter 11 = .ok (.new 38, 3) := by decide +kernel
theorem dX0_letter_14 : decode cX0_letter 14 = .ok (.dup, 1) := by decide +kernel
theorem dX0_letter_15 : decode cX0_letter 15 = .ok (.ldc 45, 2) := by decide +kernel
theorem dX0_letter_17 : decode cX0_letter 17 = .ok (.invokespecial 42, 3) := by decide +kernel
theorem dX0_letter_20 : decode cX0_letter 20 = .ok (.athrow, 1) := by decide +kernel
theorem dX0_letter_21 : decode cX0_letter 21 = .ok (.aload_n 0, 1) := by decide +kernel
theorem dX0_letter_22 : decode cX0_letter 22 = .ok (.iload_n 1, 1) := by decide +kernel
theorem dX0_letter_23 : decode cX0_letter 23 = .ok (.invokevirtual 47, 3) := by decide +kernel
theorem dX0_letter_26 : decode cX0_letter 26 = .ok (.ireturn, 1) := by decide +kernel
set_option maxRecDepth 20000 in
theorem ggX0_value_X0_checkWord : GoodIn wsX0_value wsX0_checkWord := goodIn_ca (goodIn_r _ [4, 5, 6, 7, 8, 3, 9, 10] (by decide +kernel) (by decide +kernel)) (goodIn_sub (fun _ h => List.mem_cons_of_mem _ (List.mem_append_right _ h)) (by decide +kernel))
set_option maxRecDepth 20000 in
theorem gX0_value_X0_checkWord : GoodIn wsX0_value (va_wsS RX0 51 yX0_checkWord wsX0_checkWord) := goodIn_app (goodIn_of _ (by decide +kernel)) ggX0_value_X0_checkWord
set_option maxRecDepth 20000 in
theorem ggX0_value_X0_worthOfPlaces : GoodIn wsX0_value wsX0_worthOfPlaces := goodIn_r _ [14, 15, 16, 3, 17, 18, 19, 20, 21, 22, 23, 24, 25, 26, 27, 28, 29, 30, 31, 32, 33] (by decide +kernel) (by decide +kernel)
set_option maxRecDepth 20000 in
theorem gX0_value_X0_worthOfPlaces : GoodIn wsX0_value (wsV RX0 55 RX0 yX0_worthOfPlaces wsX0_worthOfPlaces) := goodIn_app (goodIn_of _ (by decide +kernel)) ggX0_value_X0_worthOfPlaces
theorem dX0_value_0 : decode cX0_value 0 = .ok (.iload_n 1, 1) := by decide +kernel
theorem dX0_value_1 : decode cX0_value 1 = .ok (.invokestatic 51, 3) := by decide +kernel
theorem dX0_value_4 : decode cX0_value 4 = .ok (.aload_n 0, 1) := by decide +kernel
theorem dX0_value_5 : decode cX0_value 5 = .ok (.iload_n 1, 1) := by decide +kernel
theorem dX0_value_6 : decode cX0_value 6 = .ok (.bipush 63, 2) := by decide +kernel
theorem dX0_value_8 : decode cX0_value 8 = .ok (.invokevirtual 55, 3) := by decide +kernel
theorem dX0_value_11 : decode cX0_value 11 = .ok (.ireturn, 1) := by decide +kernel
theorem dX0_write_0 : decode cX0_write 0 = .ok (.aload_n 0, 1) := by decide +kernel
theorem dX0_write_1 : decode cX0_write 1 = .ok (.getfield 13, 3) := by decide +kernel
theorem dX0_write_4 : decode cX0_write 4 = .ok (.bipush 12, 2) := by decide +kernel
theorem dX0_write_6 : decode cX0_write 6 = .ok (.if_icmp .lt 13, 3) := by decide +kernel
theorem dX0_write_9 : decode cX0_write 9 = .ok (.new 62, 3) := by decide +kernel
theorem dX0_write_12 : decode cX0_write 12 = .ok (.dup, 1) := by decide +kernel
theorem dX0_write_13 : decode cX0_write 13 = .ok (.ldc 64, 2) := by decide +kernel
theorem dX0_write_15 : decode cX0_write 15 = .ok (.invokespecial 66, 3) := by decide +kernel
theorem dX0_write_18 : decode cX0_write 18 = .ok (.athrow, 1) := by decide +kernel
theorem dX0_write_19 : decode cX0_write 19 = .ok (.aload_n 0, 1) := by decide +kernel
theorem dX0_write_20 : decode cX0_write 20 = .ok (.dup, 1) := by decide +kernel
theorem dX0_write_21 : decode cX0_write 21 = .ok (.getfield 13, 3) := by decide +kernel
theorem dX0_write_24 : decode cX0_write 24 = .ok (.iconst 1, 1) := by decide +kernel
theorem dX0_write_25 : decode cX0_write 25 = .ok (.iadd, 1) := by decide +kernel
theorem dX0_write_26 : decode cX0_write 26 = .ok (.putfield 13, 3) := by decide +kernel
theorem dX0_write_29 : decode cX0_write 29 = .ok (.aload_n 0, 1) := by decide +kernel
theorem dX0_write_30 : decode cX0_write 30 = .ok (.getfield 13, 3) := by decide +kernel
theorem dX0_write_33 : decode cX0_write 33 = .ok (.iconst 1, 1) := by decide +kernel
theorem dX0_write_34 : decode cX0_write 34 = .ok (.isub, 1) := by decide +kernel
theorem dX0_write_35 : decode cX0_write 35 = .ok (.ireturn, 1) := by decide +kernel
set_option maxRecDepth 20000 in
theorem ggX0_add_X0_checkLine : GoodIn wsX0_add wsX0_checkLine := goodIn_ca (goodIn_r _ [10, 11, 12, 13, 23, 24, 25, 26, 27, 28, 29, 30] (by decide +kernel) (by decide +kernel)) (goodIn_sub (fun _ h => List.mem_cons_of_mem _ (List.mem_append_left _ (List.mem_append_right _ h))) (by decide +kernel))
set_option maxRecDepth 20000 in
theorem gX0_add_X0_checkLine : GoodIn wsX0_add (wsV RX0 67 RX0 yX0_checkLine wsX0_checkLine) := goodIn_app (goodIn_of _ (by decide +kernel)) ggX0_add_X0_checkLine
set_option maxRecDepth 20000 in
theorem ggX0_add_X0_checkWord : GoodIn wsX0_add wsX0_checkWord := goodIn_ca (goodIn_r _ [16, 17, 18, 19, 20, 9, 21, 22] (by decide +kernel) (by decide +kernel)) (goodIn_sub (fun _ h => List.mem_cons_of_mem _ (List.mem_append_right _ h)) (by decide +kernel))
set_option maxRecDepth 20000 in
theorem gX0_add_X0_checkWord : GoodIn wsX0_add (va_wsS RX0 51 yX0_checkWord wsX0_checkWord) := goodIn_app (goodIn_of _ (by decide +kernel)) ggX0_add_X0_checkWord
theorem dX0_add_0 : decode cX0_add 0 = .ok (.aload_n 0, 1) := by decide +kernel
theorem dX0_add_1 : decode cX0_add 1 = .ok (.iload_n 1, 1) := by decide +kernel
theorem dX0_add_2 : decode cX0_add 2 = .ok (.invokevirtual 67, 3) := by decide +kernel
theorem dX0_add_5 : decode cX0_add 5 = .ok (.iload_n 2, 1) := by decide +kernel
theorem dX0_add_6 : decode cX0_add 6 = .ok (.invokestatic 51, 3) := by decide +kernel
theorem dX0_add_9 : decode cX0_add 9 = .ok (.aload_n 0, 1) := by decide +kernel
theorem dX0_add_10 : decode cX0_add 10 = .ok (.getfield 16, 3) := by decide +kernel
theorem dX0_add_13 : decode cX0_add 13 = .ok (.iload_n 1, 1) := by decide +kernel
theorem dX0_add_14 : decode cX0_add 14 = .ok (.iaload, 1) := by decide +kernel
theorem dX0_add_15 : decode cX0_add 15 = .ok (.istore_n 3, 1) := by decide +kernel
theorem dX0_add_16 : decode cX0_add 16 = .ok (.iload_n 3, 1) := by decide +kernel
theorem dX0_add_17 : decode cX0_add 17 = .ok (.bipush 10, 2) := by decide +kernel
theorem dX0_add_19 : decode cX0_add 19 = .ok (.if_icmp .lt 13, 3) := by decide +kernel
theorem dX0_add_22 : decode cX0_add 22 = .ok (.new 62, 3) := by decide +kernel
theorem dX0_add_25 : decode cX0_add 25 = .ok (.dup, 1) := by decide +kernel
theorem dX0_add_26 : decode cX0_add 26 = .ok (.ldc 70, 2) := by decide +kernel
theorem dX0_add_28 : decode cX0_add 28 = .ok (.invokespecial 66, 3) := by decide +kernel
theorem dX0_add_31 : decode cX0_add 31 = .ok (.athrow, 1) := by decide +kernel
theorem dX0_add_32 : decode cX0_add 32 = .ok (.aload_n 0, 1) := by decide +kernel
theorem dX0_add_33 : decode cX0_add 33 = .ok (.getfield 22, 3) := by decide +kernel
theorem dX0_add_36 : decode cX0_add 36 = .ok (.iload_n 1, 1) := by decide +kernel
theorem dX0_add_37 : decode cX0_add 37 = .ok (.aaload, 1) := by decide +kernel
theorem dX0_add_38 : decode cX0_add 38 = .ok (.iload_n 3, 1) := by decide +kernel
theorem dX0_add_39 : decode cX0_add 39 = .ok (.iload_n 2, 1) := by decide +kernel
theorem dX0_add_40 : decode cX0_add 40 = .ok (.iastore, 1) := by decide +kernel
theorem dX0_add_41 : decode cX0_add 41 = .ok (.aload_n 0, 1) := by decide +kernel
theorem dX0_add_42 : decode cX0_add 42 = .ok (.getfield 25, 3) := by decide +kernel
theorem dX0_add_45 : decode cX0_add 45 = .ok (.iload_n 1, 1) := by decide +kernel
theorem dX0_add_46 : decode cX0_add 46 = .ok (.aaload, 1) := by decide +kernel
theorem dX0_add_47 : decode cX0_add 47 = .ok (.iload_n 3, 1) := by decide +kernel
theorem dX0_add_48 : decode cX0_add 48 = .ok (.iconst 0, 1) := by decide +kernel
theorem dX0_add_49 : decode cX0_add 49 = .ok (.iastore, 1) := by decide +kernel
theorem dX0_add_50 : decode cX0_add 50 = .ok (.aload_n 0, 1) := by decide +kernel
theorem dX0_add_51 : decode cX0_add 51 = .ok (.getfield 16, 3) := by decide +kernel
theorem dX0_add_54 : decode cX0_add 54 = .ok (.iload_n 1, 1) := by decide +kernel
theorem dX0_add_55 : decode cX0_add 55 = .ok (.iload_n 3, 1) := by decide +kernel
theorem dX0_add_56 : decode cX0_add 56 = .ok (.iconst 1, 1) := by decide +kernel
theorem dX0_add_57 : decode cX0_add 57 = .ok (.iadd, 1) := by decide +kernel
theorem dX0_add_58 : decode cX0_add 58 = .ok (.iastore, 1) := by decide +kernel
theorem dX0_add_59 : decode cX0_add 59 = .ok (.iload_n 3, 1) := by decide +kernel
theorem dX0_add_60 : decode cX0_add 60 = .ok (.iconst 1, 1) := by decide +kernel
theorem dX0_add_61 : decode cX0_add 61 = .ok (.iadd, 1) := by decide +kernel
theorem dX0_add_62 : decode cX0_add 62 = .ok (.ireturn, 1) := by decide +kernel
set_option maxRecDepth 20000 in
theorem ggX0_cut_X0_checkLine : GoodIn wsX0_cut wsX0_checkLine := goodIn_ca (goodIn_r _ [9, 10, 11, 12, 13, 14, 15, 16, 17, 18, 19, 20] (by decide +kernel) (by decide +kernel)) (goodIn_sub (fun _ h => List.mem_cons_of_mem _ (List.mem_append_right _ h)) (by decide +kernel))
set_option maxRecDepth 20000 in
theorem gX0_cut_X0_checkLine : GoodIn wsX0_cut (wsV RX0 67 RX0 yX0_checkLine wsX0_checkLine) := goodIn_app (goodIn_of _ (by decide +kernel)) ggX0_cut_X0_checkLine
theorem dX0_cut_0 : decode cX0_cut 0 = .ok (.aload_n 0, 1) := by decide +kernel
theorem dX0_cut_1 : decode cX0_cut 1 = .ok (.iload_n 1, 1) := by decide +kernel
theorem dX0_cut_2 : decode cX0_cut 2 = .ok (.invokevirtual 67, 3) := by decide +kernel
theorem dX0_cut_5 : decode cX0_cut 5 = .ok (.aload_n 0, 1) := by decide +kernel
theorem dX0_cut_6 : decode cX0_cut 6 = .ok (.getfield 16, 3) := by decide +kernel
theorem dX0_cut_9 : decode cX0_cut 9 = .ok (.iload_n 1, 1) := by decide +kernel
theorem dX0_cut_10 : decode cX0_cut 10 = .ok (.iaload, 1) := by decide +kernel
theorem dX0_cut_11 : decode cX0_cut 11 = .ok (.iconst 1, 1) := by decide +kernel
theorem dX0_cut_12 : decode cX0_cut 12 = .ok (.isub, 1) := by decide +kernel
theorem dX0_cut_13 : decode cX0_cut 13 = .ok (.istore_n 2, 1) := by decide +kernel
theorem dX0_cut_14 : decode cX0_cut 14 = .ok (.iload_n 2, 1) := by decide +kernel
theorem dX0_cut_15 : decode cX0_cut 15 = .ok (.ifCond .ge 13, 3) := by decide +kernel
theorem dX0_cut_18 : decode cX0_cut 18 = .ok (.new 62, 3) := by decide +kernel
theorem dX0_cut_21 : decode cX0_cut 21 = .ok (.dup, 1) := by decide +kernel
theorem dX0_cut_22 : decode cX0_cut 22 = .ok (.ldc 72, 2) := by decide +kernel
theorem dX0_cut_24 : decode cX0_cut 24 = .ok (.invokespecial 66, 3) := by decide +kernel
theorem dX0_cut_27 : decode cX0_cut 27 = .ok (.athrow, 1) := by decide +kernel
theorem dX0_cut_28 : decode cX0_cut 28 = .ok (.aload_n 0, 1) := by decide +kernel
theorem dX0_cut_29 : decode cX0_cut 29 = .ok (.getfield 16, 3) := by decide +kernel
theorem dX0_cut_32 : decode cX0_cut 32 = .ok (.iload_n 1, 1) := by decide +kernel
theorem dX0_cut_33 : decode cX0_cut 33 = .ok (.iload_n 2, 1) := by decide +kernel
theorem dX0_cut_34 : decode cX0_cut 34 = .ok (.iastore, 1) := by decide +kernel
theorem dX0_cut_35 : decode cX0_cut 35 = .ok (.aload_n 0, 1) := by decide +kernel
theorem dX0_cut_36 : decode cX0_cut 36 = .ok (.getfield 22, 3) := by decide +kernel
theorem dX0_cut_39 : decode cX0_cut 39 = .ok (.iload_n 1, 1) := by decide +kernel
theorem dX0_cut_40 : decode cX0_cut 40 = .ok (.aaload, 1) := by decide +kernel
theorem dX0_cut_41 : decode cX0_cut 41 = .ok (.iload_n 2, 1) := by decide +kernel
theorem dX0_cut_42 : decode cX0_cut 42 = .ok (.iaload, 1) := by decide +kernel
theorem dX0_cut_43 : decode cX0_cut 43 = .ok (.ireturn, 1) := by decide +kernel
set_option maxRecDepth 20000 in
theorem ggX0_mark_X0_checkWordOfLine : GoodIn wsX0_mark wsX0_checkWordOfLine := goodIn_ca (goodIn_r _ [9, 1, 2, 10, 11, 12, 13, 8, 14, 15, 22, 23, 24, 25, 26, 27, 28, 29] (by decide +kernel) (by decide +kernel)) (goodIn_sub (fun _ h => List.mem_cons_of_mem _ (List.mem_append_right _ h)) (by decide +kernel))
set_option maxRecDepth 20000 in
theorem gX0_mark_X0_checkWordOfLine : GoodIn wsX0_mark (wsV RX0 74 RX0 yX0_checkWordOfLine wsX0_checkWordOfLine) := goodIn_app (goodIn_of _ (by decide +kernel)) ggX0_mark_X0_checkWordOfLine
set_option maxRecDepth 20000 in
theorem ggX0_mark_X0_lengthOf : GoodIn wsX0_mark wsX0_lengthOf := goodIn_r _ [18] (by decide +kernel) (by decide +kernel)
set_option maxRecDepth 20000 in
theorem gX0_mark_X0_lengthOf : GoodIn wsX0_mark (va_wsS RX0 78 yX0_lengthOf wsX0_lengthOf) := goodIn_app (goodIn_of _ (by decide +kernel)) ggX0_mark_X0_lengthOf
set_option maxRecDepth 20000 in
theorem ggX0_mark_X0_isMarked : GoodIn wsX0_mark wsX0_isMarked := goodIn_r _ [21] (by decide +kernel) (by decide +kernel)
set_option maxRecDepth 20000 in
theorem gX0_mark_X0_isMarked : GoodIn wsX0_mark (va_wsS RX0 83 yX0_isMarked wsX0_isMarked) := goodIn_app (goodIn_of _ (by decide +kernel)) ggX0_mark_X0_isMarked
theorem dX0_mark_0 : decode cX0_mark 0 = .ok (.aload_n 0, 1) := by decide +kernel
theorem dX0_mark_1 : decode cX0_mark 1 = .ok (.iload_n 1, 1) := by decide +kernel
theorem dX0_mark_2 : decode cX0_mark 2 = .ok (.iload_n 2, 1) := by decide +kernel
theorem dX0_mark_3 : decode cX0_mark 3 = .ok (.invokevirtual 74, 3) := by decide +kernel
theorem dX0_mark_6 : decode cX0_mark 6 = .ok (.iload_n 3, 1) := by decide +kernel
theorem dX0_mark_7 : decode cX0_mark 7 = .ok (.ifCond .lt 18, 3) := by decide +kernel
theorem dX0_mark_10 : decode cX0_mark 10 = .ok (.iload_n 3, 1) := by decide +kernel
theorem dX0_mark_11 : decode cX0_mark 11 = .ok (.aload_n 0, 1) := by decide +kernel
theorem dX0_mark_12 : decode cX0_mark 12 = .ok (.getfield 22, 3) := by decide +kernel
theorem dX0_mark_15 : decode cX0_mark 15 = .ok (.iload_n 1, 1) := by decide +kernel
theorem dX0_mark_16 : decode cX0_mark 16 = .ok (.aaload, 1) := by decide +kernel
theorem dX0_mark_17 : decode cX0_mark 17 = .ok (.iload_n 2, 1) := by decide +kernel
theorem dX0_mark_18 : decode cX0_mark 18 = .ok (.iaload, 1) := by decide +kernel
theorem dX0_mark_19 : decode cX0_mark 19 = .ok (.invokestatic 78, 3) := by decide +kernel
theorem dX0_mark_22 : decode cX0_mark 22 = .ok (.if_icmp .lt 13, 3) := by decide +kernel
theorem dX0_mark_25 : decode cX0_mark 25 = .ok (.new 38, 3) := by decide +kernel
theorem dX0_mark_28 : decode cX0_mark 28 = .ok (.dup, 1) := by decide +kernel
theorem dX0_mark_29 : decode cX0_mark 29 = .ok (.ldc 81, 2) := by decide +kernel
theorem dX0_mark_31 : decode cX0_mark 31 = .ok (.invokespecial 42, 3) := by decide +kernel
theorem dX0_mark_34 : decode cX0_mark 34 = .ok (.athrow, 1) := by decide +kernel
theorem dX0_mark_35 : decode cX0_mark 35 = .ok (.aload_n 0, 1) := by decide +kernel
theorem dX0_mark_36 : decode cX0_mark 36 = .ok (.getfield 25, 3) := by decide +kernel
theorem dX0_mark_39 : decode cX0_mark 39 = .ok (.iload_n 1, 1) := by decide +kernel
theorem dX0_mark_40 : decode cX0_mark 40 = .ok (.aaload, 1) := by decide +kernel
theorem dX0_mark_41 : decode cX0_mark 41 = .ok (.iload_n 2, 1) := by decide +kernel
theorem dX0_mark_42 : decode cX0_mark 42 = .ok (.dup2, 1) := by decide +kernel
theorem dX0_mark_43 : decode cX0_mark 43 = .ok (.iaload, 1) := by decide +kernel
theorem dX0_mark_44 : decode cX0_mark 44 = .ok (.iconst 1, 1) := by decide +kernel
theorem dX0_mark_45 : decode cX0_mark 45 = .ok (.iload_n 3, 1) := by decide +kernel
theorem dX0_mark_46 : decode cX0_mark 46 = .ok (.ishl, 1) := by decide +kernel
theorem dX0_mark_47 : decode cX0_mark 47 = .ok (.ixor, 1) := by decide +kernel
theorem dX0_mark_48 : decode cX0_mark 48 = .ok (.iastore, 1) := by decide +kernel
theorem dX0_mark_49 : decode cX0_mark 49 = .ok (.aload_n 0, 1) := by decide +kernel
theorem dX0_mark_50 : decode cX0_mark 50 = .ok (.getfield 25, 3) := by decide +kernel
theorem dX0_mark_53 : decode cX0_mark 53 = .ok (.iload_n 1, 1) := by decide +kernel
theorem dX0_mark_54 : decode cX0_mark 54 = .ok (.aaload, 1) := by decide +kernel
theorem dX0_mark_55 : decode cX0_mark 55 = .ok (.iload_n 2, 1) := by decide +kernel
theorem dX0_mark_56 : decode cX0_mark 56 = .ok (.iaload, 1) := by decide +kernel
theorem dX0_mark_57 : decode cX0_mark 57 = .ok (.iload_n 3, 1) := by decide +kernel
theorem dX0_mark_58 : decode cX0_mark 58 = .ok (.invokestatic 83, 3) := by decide +kernel
theorem dX0_mark_61 : decode cX0_mark 61 = .ok (.ireturn, 1) := by decide +kernel
set_option maxRecDepth 20000 in
theorem ggX0_word_X0_checkWordOfLine : GoodIn wsX0_word wsX0_checkWordOfLine := goodIn_ca (goodIn_r _ [5, 6, 7, 8, 9, 10, 11, 4, 12, 13, 45, 46, 47, 48, 49, 50, 51, 52] (by decide +kernel) (by decide +kernel)) (goodIn_sub (fun _ h => List.mem_cons_of_mem _ (List.mem_append_right _ h)) (by decide +kernel))
set_option maxRecDepth 20000 in
theorem gX0_word_X0_checkWordOfLine : GoodIn wsX0_word (wsV RX0 74 RX0 yX0_checkWordOfLine wsX0_checkWordOfLine) := goodIn_app (goodIn_of _ (by decide +kernel)) ggX0_word_X0_checkWordOfLine
set_option maxRecDepth 20000 in
theorem ggX0_word_X0_checkWhat : GoodIn wsX0_word wsX0_checkWhat := goodIn_ca (goodIn_r _ [16, 6, 7] (by decide +kernel) (by decide +kernel)) (goodIn_sub (fun _ h => List.mem_cons_of_mem _ (List.mem_append_right _ h)) (by decide +kernel))
set_option maxRecDepth 20000 in
theorem gX0_word_X0_checkWhat : GoodIn wsX0_word (va_wsS RX0 87 yX0_checkWhat wsX0_checkWhat) := goodIn_app (goodIn_of _ (by decide +kernel)) ggX0_word_X0_checkWhat
set_option maxRecDepth 20000 in
theorem ggX0_word_X0_figureOfWord : GoodIn wsX0_word wsX0_figureOfWord := goodIn_r _ [20, 21, 22, 23, 24, 4, 25, 26, 27, 28, 29, 30, 31, 32, 33, 34, 35, 36, 37, 38, 39, 40, 41, 42, 43, 44, 45, 46, 47, 48, 49, 50, 51, 52] (by decide +kernel) (by decide +kernel)
set_option maxRecDepth 20000 in
theorem gX0_word_X0_figureOfWord : GoodIn wsX0_word (wsV RX0 90 RX0 yX0_figureOfWord wsX0_figureOfWord) := goodIn_app (goodIn_of _ (by decide +kernel)) ggX0_word_X0_figureOfWord
theorem dX0_word_0 : decode cX0_word 0 = .ok (.aload_n 0, 1) := by decide +kernel
theorem dX0_word_1 : decode cX0_word 1 = .ok (.iload_n 1, 1) := by decide +kernel
theorem dX0_word_2 : decode cX0_word 2 = .ok (.iload_n 2, 1) := by decide +kernel
theorem dX0_word_3 : decode cX0_word 3 = .ok (.invokevirtual 74, 3) := by decide +kernel
theorem dX0_word_6 : decode cX0_word 6 = .ok (.iload_n 3, 1) := by decide +kernel
theorem dX0_word_7 : decode cX0_word 7 = .ok (.iconst 5, 1) := by decide +kernel
theorem dX0_word_8 : decode cX0_word 8 = .ok (.invokestatic 87, 3) := by decide +kernel
theorem dX0_word_11 : decode cX0_word 11 = .ok (.aload_n 0, 1) := by decide +kernel
theorem dX0_word_12 : decode cX0_word 12 = .ok (.iload_n 1, 1) := by decide +kernel
theorem dX0_word_13 : decode cX0_word 13 = .ok (.iload_n 2, 1) := by decide +kernel
theorem dX0_word_14 : decode cX0_word 14 = .ok (.iload_n 3, 1) := by decide +kernel
theorem dX0_word_15 : decode cX0_word 15 = .ok (.invokevirtual 90, 3) := by decide +kernel
theorem dX0_word_18 : decode cX0_word 18 = .ok (.ireturn, 1) := by decide +kernel
set_option maxRecDepth 20000 in
theorem ggX0_line_X0_checkLine : GoodIn wsX0_line wsX0_checkLine := goodIn_ca (goodIn_r _ [5, 6, 7, 8, 45, 46, 47, 48, 49, 50, 51, 52] (by decide +kernel) (by decide +kernel)) (goodIn_sub (fun _ h => List.mem_cons_of_mem _ (List.mem_append_right _ h)) (by decide +kernel))
set_option maxRecDepth 20000 in
theorem gX0_line_X0_checkLine : GoodIn wsX0_line (wsV RX0 67 RX0 yX0_checkLine wsX0_checkLine) := goodIn_app (goodIn_of _ (by decide +kernel)) ggX0_line_X0_checkLine
set_option maxRecDepth 20000 in
theorem ggX0_line_X0_checkWhat : GoodIn wsX0_line wsX0_checkWhat := goodIn_ca (goodIn_r _ [11, 6, 7] (by decide +kernel) (by decide +kernel)) (goodIn_sub (fun _ h => List.mem_cons_of_mem _ (List.mem_append_right _ h)) (by decide +kernel))
set_option maxRecDepth 20000 in
theorem gX0_line_X0_checkWhat : GoodIn wsX0_line (va_wsS RX0 87 yX0_checkWhat wsX0_checkWhat) := goodIn_app (goodIn_of _ (by decide +kernel)) ggX0_line_X0_checkWhat
set_option maxRecDepth 20000 in
theorem ggX0_line_X0_figureOfLine : GoodIn wsX0_line wsX0_figureOfLine := goodIn_r _ [15, 16, 17, 18, 19, 4, 20, 21, 22, 23, 24, 25, 26, 27, 28, 29, 30, 31, 32, 33, 34, 35, 36, 37, 38, 39, 40, 41, 42, 43, 44, 45, 46, 47, 48, 49, 50, 51, 52] (by decide +kernel) (by decide +kernel)
set_option maxRecDepth 20000 in
theorem gX0_line_X0_figureOfLine : GoodIn wsX0_line (wsV RX0 94 RX0 yX0_figureOfLine wsX0_figureOfLine) := goodIn_app (goodIn_of _ (by decide +kernel)) ggX0_line_X0_figureOfLine
theorem dX0_line_0 : decode cX0_line 0 = .ok (.aload_n 0, 1) := by decide +kernel
theorem dX0_line_1 : decode cX0_line 1 = .ok (.iload_n 1, 1) := by decide +kernel
theorem dX0_line_2 : decode cX0_line 2 = .ok (.invokevirtual 67, 3) := by decide +kernel
theorem dX0_line_5 : decode cX0_line 5 = .ok (.iload_n 2, 1) := by decide +kernel
theorem dX0_line_6 : decode cX0_line 6 = .ok (.iconst 5, 1) := by decide +kernel
theorem dX0_line_7 : decode cX0_line 7 = .ok (.invokestatic 87, 3) := by decide +kernel
theorem dX0_line_10 : decode cX0_line 10 = .ok (.aload_n 0, 1) := by decide +kernel
theorem dX0_line_11 : decode cX0_line 11 = .ok (.iload_n 1, 1) := by decide +kernel
theorem dX0_line_12 : decode cX0_line 12 = .ok (.iload_n 2, 1) := by decide +kernel
theorem dX0_line_13 : decode cX0_line 13 = .ok (.invokevirtual 94, 3) := by decide +kernel
theorem dX0_line_16 : decode cX0_line 16 = .ok (.ireturn, 1) := by decide +kernel
set_option maxRecDepth 20000 in
theorem ggX0_told_X0_checkWhat : GoodIn wsX0_told wsX0_checkWhat := goodIn_ca (goodIn_r _ [5, 6, 7] (by decide +kernel) (by decide +kernel)) (goodIn_sub (fun _ h => List.mem_cons_of_mem _ (List.mem_append_right _ h)) (by decide +kernel))
set_option maxRecDepth 20000 in
theorem gX0_told_X0_checkWhat : GoodIn wsX0_told (va_wsS RX0 87 yX0_checkWhat wsX0_checkWhat) := goodIn_app (goodIn_of _ (by decide +kernel)) ggX0_told_X0_checkWhat
set_option maxRecDepth 20000 in
theorem ggX0_told_X0_pairsOfSameWorth : GoodIn wsX0_told wsX0_pairsOfSameWorth := goodIn_r _ [11, 1, 12, 13, 14, 15, 16, 17, 4, 18, 19, 20, 21, 22, 23, 24, 25, 26, 27, 28, 29, 30, 31, 32, 33, 54, 55, 56, 57, 58, 59, 60, 61] (by decide +kernel) (by decide +kernel)
set_option maxRecDepth 20000 in
theorem gX0_told_X0_pairsOfSameWorth : GoodIn wsX0_told (wsV RX0 97 RX0 yX0_pairsOfSameWorth wsX0_pairsOfSameWorth) := goodIn_app (goodIn_of _ (by decide +kernel)) ggX0_told_X0_pairsOfSameWorth
set_option maxRecDepth 20000 in
theorem ggX0_told_X0_sumOverLines : GoodIn wsX0_told wsX0_sumOverLines := goodIn_r _ [37, 1, 38, 39, 40, 4, 41, 12, 42, 43, 44, 45, 13, 46, 19, 20, 21, 15, 16, 17, 18, 22, 23, 24, 25, 26, 27, 28, 29, 47, 48, 49, 50, 51, 52, 53, 54, 55, 56, 57, 58, 59, 60, 61] (by decide +kernel) (by decide +kernel)
set_option maxRecDepth 20000 in
theorem gX0_told_X0_sumOverLines : GoodIn wsX0_told (wsV RX0 101 RX0 yX0_sumOverLines wsX0_sumOverLines) := goodIn_app (goodIn_of _ (by decide +kernel)) ggX0_told_X0_sumOverLines
theorem dX0_told_0 : decode cX0_told 0 = .ok (.iload_n 1, 1) := by decide +kernel
theorem dX0_told_1 : decode cX0_told 1 = .ok (.bipush 7, 2) := by decide +kernel
theorem dX0_told_3 : decode cX0_told 3 = .ok (.invokestatic 87, 3) := by decide +kernel
theorem dX0_told_6 : decode cX0_told 6 = .ok (.iload_n 1, 1) := by decide +kernel
theorem dX0_told_7 : decode cX0_told 7 = .ok (.ifCond .ne 8, 3) := by decide +kernel
theorem dX0_told_10 : decode cX0_told 10 = .ok (.aload_n 0, 1) := by decide +kernel
theorem dX0_told_11 : decode cX0_told 11 = .ok (.getfield 13, 3) := by decide +kernel
theorem dX0_told_14 : decode cX0_told 14 = .ok (.ireturn, 1) := by decide +kernel
theorem dX0_told_15 : decode cX0_told 15 = .ok (.iload_n 1, 1) := by decide +kernel
theorem dX0_told_16 : decode cX0_told 16 = .ok (.bipush 6, 2) := by decide +kernel
theorem dX0_told_18 : decode cX0_told 18 = .ok (.if_icmp .ne 8, 3) := by decide +kernel
theorem dX0_told_21 : decode cX0_told 21 = .ok (.aload_n 0, 1) := by decide +kernel
theorem dX0_told_22 : decode cX0_told 22 = .ok (.invokevirtual 97, 3) := by decide +kernel
theorem dX0_told_25 : decode cX0_told 25 = .ok (.ireturn, 1) := by decide +kernel
theorem dX0_told_26 : decode cX0_told 26 = .ok (.aload_n 0, 1) := by decide +kernel
theorem dX0_told_27 : decode cX0_told 27 = .ok (.iload_n 1, 1) := by decide +kernel
theorem dX0_told_28 : decode cX0_told 28 = .ok (.iconst 1, 1) := by decide +kernel
theorem dX0_told_29 : decode cX0_told 29 = .ok (.isub, 1) := by decide +kernel
theorem dX0_told_30 : decode cX0_told 30 = .ok (.invokevirtual 101, 3) := by decide +kernel
theorem dX0_told_33 : decode cX0_told 33 = .ok (.ireturn, 1) := by decide +kernel
set_option maxRecDepth 20000 in
theorem ggX0_hidden_X0_checkLine : GoodIn wsX0_hidden wsX0_checkLine := goodIn_ca (goodIn_r _ [6, 7, 8, 9, 30, 31, 32, 33, 34, 35, 36, 37] (by decide +kernel) (by decide +kernel)) (goodIn_sub (fun _ h => List.mem_cons_of_mem _ (List.mem_append_right _ h)) (by decide +kernel))
set_option maxRecDepth 20000 in
theorem gX0_hidden_X0_checkLine : GoodIn wsX0_hidden (wsV RX0 67 RX0 yX0_checkLine wsX0_checkLine) := goodIn_app (goodIn_of _ (by decide +kernel)) ggX0_hidden_X0_checkLine
set_option maxRecDepth 20000 in
theorem ggX0_hidden_X0_lastOfRun : GoodIn wsX0_hidden wsX0_lastOfRun := goodIn_r _ [13, 1, 14, 15, 16, 17, 5, 18, 19, 20, 21, 22, 23, 24, 25, 26, 27, 28, 29, 30, 31, 32, 33, 34, 35, 36, 37] (by decide +kernel) (by decide +kernel)
set_option maxRecDepth 20000 in
theorem gX0_hidden_X0_lastOfRun : GoodIn wsX0_hidden (wsV RX0 104 RX0 yX0_lastOfRun wsX0_lastOfRun) := goodIn_app (goodIn_of _ (by decide +kernel)) ggX0_hidden_X0_lastOfRun
theorem dX0_hidden_0 : decode cX0_hidden 0 = .ok (.aload_n 0, 1) := by decide +kernel
theorem dX0_hidden_1 : decode cX0_hidden 1 = .ok (.iload_n 1, 1) := by decide +kernel
theorem dX0_hidden_2 : decode cX0_hidden 2 = .ok (.invokevirtual 67, 3) := by decide +kernel
theorem dX0_hidden_5 : decode cX0_hidden 5 = .ok (.iconst 0, 1) := by decide +kernel
theorem dX0_hidden_6 : decode cX0_hidden 6 = .ok (.istore_n 3, 1) := by decide +kernel
theorem dX0_hidden_7 : decode cX0_hidden 7 = .ok (.iload_n 3, 1) := by decide +kernel
theorem dX0_hidden_8 : decode cX0_hidden 8 = .ok (.aload_n 0, 1) := by decide +kernel
theorem dX0_hidden_9 : decode cX0_hidden 9 = .ok (.getfield 16, 3) := by decide +kernel
theorem dX0_hidden_12 : decode cX0_hidden 12 = .ok (.iload_n 1, 1) := by decide +kernel
theorem dX0_hidden_13 : decode cX0_hidden 13 = .ok (.iaload, 1) := by decide +kernel
theorem dX0_hidden_14 : decode cX0_hidden 14 = .ok (.if_icmp .ge 31, 3) := by decide +kernel
theorem dX0_hidden_17 : decode cX0_hidden 17 = .ok (.aload_n 0, 1) := by decide +kernel
theorem dX0_hidden_18 : decode cX0_hidden 18 = .ok (.iload_n 1, 1) := by decide +kernel
theorem dX0_hidden_19 : decode cX0_hidden 19 = .ok (.iload_n 3, 1) := by decide +kernel
theorem dX0_hidden_20 : decode cX0_hidden 20 = .ok (.iload_n 2, 1) := by decide +kernel
theorem dX0_hidden_21 : decode cX0_hidden 21 = .ok (.invokevirtual 104, 3) := by decide +kernel
theorem dX0_hidden_24 : decode cX0_hidden 24 = .ok (.istore 4, 2) := by decide +kernel
theorem dX0_hidden_26 : decode cX0_hidden 26 = .ok (.iload 4, 2) := by decide +kernel
theorem dX0_hidden_28 : decode cX0_hidden 28 = .ok (.ifCond .lt 11, 3) := by decide +kernel
theorem dX0_hidden_31 : decode cX0_hidden 31 = .ok (.bipush 10, 2) := by decide +kernel
theorem dX0_hidden_33 : decode cX0_hidden 33 = .ok (.iload_n 3, 1) := by decide +kernel
theorem dX0_hidden_34 : decode cX0_hidden 34 = .ok (.imul, 1) := by decide +kernel
theorem dX0_hidden_35 : decode cX0_hidden 35 = .ok (.iload 4, 2) := by decide +kernel
theorem dX0_hidden_37 : decode cX0_hidden 37 = .ok (.iadd, 1) := by decide +kernel
theorem dX0_hidden_38 : decode cX0_hidden 38 = .ok (.ireturn, 1) := by decide +kernel
theorem dX0_hidden_39 : decode cX0_hidden 39 = .ok (.iinc 3 1, 3) := by decide +kernel
theorem dX0_hidden_42 : decode cX0_hidden 42 = .ok (.goto (-35), 3) := by decide +kernel
theorem dX0_hidden_45 : decode cX0_hidden 45 = .ok (.iconst (-1), 1) := by decide +kernel
theorem dX0_hidden_46 : decode cX0_hidden 46 = .ok (.ireturn, 1) := by decide +kernel
set_option maxRecDepth 20000 in
theorem ggX0_hides_X0_lastOfRun : GoodIn wsX0_hides wsX0_lastOfRun := goodIn_r _ [7, 2, 8, 9, 10, 11, 6, 12, 13, 14, 15, 16, 17, 18, 19, 20, 21, 22, 23, 24, 25, 26, 27, 28, 29, 30, 31] (by decide +kernel) (by decide +kernel)
set_option maxRecDepth 20000 in
theorem gX0_hides_X0_lastOfRun : GoodIn wsX0_hides (wsV RX0 104 RX0 yX0_lastOfRun wsX0_lastOfRun) := goodIn_app (goodIn_of _ (by decide +kernel)) ggX0_hides_X0_lastOfRun
theorem dX0_hides_0 : decode cX0_hides 0 = .ok (.iconst 0, 1) := by decide +kernel
theorem dX0_hides_1 : decode cX0_hides 1 = .ok (.istore_n 2, 1) := by decide +kernel
theorem dX0_hides_2 : decode cX0_hides 2 = .ok (.iconst 0, 1) := by decide +kernel
theorem dX0_hides_3 : decode cX0_hides 3 = .ok (.istore_n 3, 1) := by decide +kernel
theorem dX0_hides_4 : decode cX0_hides 4 = .ok (.iload_n 3, 1) := by decide +kernel
theorem dX0_hides_5 : decode cX0_hides 5 = .ok (.aload_n 0, 1) := by decide +kernel
theorem dX0_hides_6 : decode cX0_hides 6 = .ok (.getfield 13, 3) := by decide +kernel
theorem dX0_hides_9 : decode cX0_hides 9 = .ok (.if_icmp .ge 43, 3) := by decide +kernel
theorem dX0_hides_12 : decode cX0_hides 12 = .ok (.iconst 0, 1) := by decide +kernel
theorem dX0_hides_13 : decode cX0_hides 13 = .ok (.istore 4, 2) := by decide +kernel
theorem dX0_hides_15 : decode cX0_hides 15 = .ok (.iload 4, 2) := by decide +kernel
theorem dX0_hides_17 : decode cX0_hides 17 = .ok (.aload_n 0, 1) := by decide +kernel
theorem dX0_hides_18 : decode cX0_hides 18 = .ok (.getfield 16, 3) := by decide +kernel
theorem dX0_hides_21 : decode cX0_hides 21 = .ok (.iload_n 3, 1) := by decide +kernel
theorem dX0_hides_22 : decode cX0_hides 22 = .ok (.iaload, 1) := by decide +kernel
theorem dX0_hides_23 : decode cX0_hides 23 = .ok (.if_icmp .ge 23, 3) := by decide +kernel
theorem dX0_hides_26 : decode cX0_hides 26 = .ok (.aload_n 0, 1) := by decide +kernel
theorem dX0_hides_27 : decode cX0_hides 27 = .ok (.iload_n 3, 1) := by decide +kernel
theorem dX0_hides_28 : decode cX0_hides 28 = .ok (.iload 4, 2) := by decide +kernel
theorem dX0_hides_30 : decode cX0_hides 30 = .ok (.iload_n 1, 1) := by decide +kernel
theorem dX0_hides_31 : decode cX0_hides 31 = .ok (.invokevirtual 104, 3) := by decide +kernel
theorem dX0_hides_34 : decode cX0_hides 34 = .ok (.ifCond .lt 6, 3) := by decide +kernel
theorem dX0_hides_37 : decode cX0_hides 37 = .ok (.iinc 2 1, 3) := by decide +kernel
theorem dX0_hides_40 : decode cX0_hides 40 = .ok (.iinc 4 1, 3) := by decide +kernel
theorem dX0_hides_43 : decode cX0_hides 43 = .ok (.goto (-28), 3) := by decide +kernel
theorem dX0_hides_46 : decode cX0_hides 46 = .ok (.iinc 3 1, 3) := by decide +kernel
theorem dX0_hides_49 : decode cX0_hides 49 = .ok (.goto (-45), 3) := by decide +kernel
theorem dX0_hides_52 : decode cX0_hides 52 = .ok (.iload_n 2, 1) := by decide +kernel
theorem dX0_hides_53 : decode cX0_hides 53 = .ok (.ireturn, 1) := by decide +kernel
set_option maxRecDepth 20000 in
theorem ggX0_lacks_X0_checkLine : GoodIn wsX0_lacks wsX0_checkLine := goodIn_ca (goodIn_r _ [5, 6, 7, 8, 42, 43, 44, 45, 46, 47, 48, 49] (by decide +kernel) (by decide +kernel)) (goodIn_sub (fun _ h => List.mem_cons_of_mem _ (List.mem_append_right _ h)) (by decide +kernel))
set_option maxRecDepth 20000 in
theorem gX0_lacks_X0_checkLine : GoodIn wsX0_lacks (wsV RX0 67 RX0 yX0_checkLine wsX0_checkLine) := goodIn_app (goodIn_of _ (by decide +kernel)) ggX0_lacks_X0_checkLine
set_option maxRecDepth 20000 in
theorem ggX0_lacks_X0_figureOfLine : GoodIn wsX0_lacks wsX0_figureOfLine := goodIn_r _ [12, 13, 14, 15, 16, 4, 17, 18, 19, 20, 21, 22, 23, 24, 25, 26, 27, 28, 29, 30, 31, 32, 33, 34, 35, 36, 37, 38, 39, 40, 41, 42, 43, 44, 45, 46, 47, 48, 49] (by decide +kernel) (by decide +kernel)
set_option maxRecDepth 20000 in
theorem gX0_lacks_X0_figureOfLine : GoodIn wsX0_lacks (wsV RX0 94 RX0 yX0_figureOfLine wsX0_figureOfLine) := goodIn_app (goodIn_of _ (by decide +kernel)) ggX0_lacks_X0_figureOfLine
set_option maxRecDepth 20000 in
theorem ggX0_lacks_X0_worthOfLetter : GoodIn wsX0_lacks wsX0_worthOfLetter := goodIn_r _ [33, 34, 42, 43, 44, 45, 46, 47, 48, 49] (by decide +kernel) (by decide +kernel)
set_option maxRecDepth 20000 in
theorem gX0_lacks_X0_worthOfLetter : GoodIn wsX0_lacks (wsV RX0 47 RX0 yX0_worthOfLetter wsX0_worthOfLetter) := goodIn_app (goodIn_of _ (by decide +kernel)) ggX0_lacks_X0_worthOfLetter
theorem dX0_lacks_0 : decode cX0_lacks 0 = .ok (.aload_n 0, 1) := by decide +kernel
theorem dX0_lacks_1 : decode cX0_lacks 1 = .ok (.iload_n 1, 1) := by decide +kernel
theorem dX0_lacks_2 : decode cX0_lacks 2 = .ok (.invokevirtual 67, 3) := by decide +kernel
theorem dX0_lacks_5 : decode cX0_lacks 5 = .ok (.aload_n 0, 1) := by decide +kernel
theorem dX0_lacks_6 : decode cX0_lacks 6 = .ok (.iload_n 1, 1) := by decide +kernel
theorem dX0_lacks_7 : decode cX0_lacks 7 = .ok (.iconst 2, 1) := by decide +kernel
theorem dX0_lacks_8 : decode cX0_lacks 8 = .ok (.invokevirtual 94, 3) := by decide +kernel
theorem dX0_lacks_11 : decode cX0_lacks 11 = .ok (.istore_n 3, 1) := by decide +kernel
theorem dX0_lacks_12 : decode cX0_lacks 12 = .ok (.iconst 1, 1) := by decide +kernel
theorem dX0_lacks_13 : decode cX0_lacks 13 = .ok (.istore 4, 2) := by decide +kernel
theorem dX0_lacks_15 : decode cX0_lacks 15 = .ok (.iload 4, 2) := by decide +kernel
theorem dX0_lacks_17 : decode cX0_lacks 17 = .ok (.bipush 26, 2) := by decide +kernel
theorem dX0_lacks_19 : decode cX0_lacks 19 = .ok (.if_icmp .gt 24, 3) := by decide +kernel
theorem dX0_lacks_22 : decode cX0_lacks 22 = .ok (.iload_n 3, 1) := by decide +kernel
theorem dX0_lacks_23 : decode cX0_lacks 23 = .ok (.aload_n 0, 1) := by decide +kernel
theorem dX0_lacks_24 : decode cX0_lacks 24 = .ok (.iload 4, 2) := by decide +kernel
theorem dX0_lacks_26 : decode cX0_lacks 26 = .ok (.invokevirtual 47, 3) := by decide +kernel
theorem dX0_lacks_29 : decode cX0_lacks 29 = .ok (.iadd, 1) := by decide +kernel
theorem dX0_lacks_30 : decode cX0_lacks 30 = .ok (.iload_n 2, 1) := by decide +kernel
theorem dX0_lacks_31 : decode cX0_lacks 31 = .ok (.if_icmp .ne 6, 3) := by decide +kernel
theorem dX0_lacks_34 : decode cX0_lacks 34 = .ok (.iload 4, 2) := by decide +kernel
theorem dX0_lacks_36 : decode cX0_lacks 36 = .ok (.ireturn, 1) := by decide +kernel
theorem dX0_lacks_37 : decode cX0_lacks 37 = .ok (.iinc 4 1, 3) := by decide +kernel
theorem dX0_lacks_40 : decode cX0_lacks 40 = .ok (.goto (-25), 3) := by decide +kernel
theorem dX0_lacks_43 : decode cX0_lacks 43 = .ok (.iconst (-1), 1) := by decide +kernel
theorem dX0_lacks_44 : decode cX0_lacks 44 = .ok (.ireturn, 1) := by decide +kernel
set_option maxRecDepth 20000 in
theorem ggX0_nearest_X0_figureOfLine : GoodIn wsX0_nearest wsX0_figureOfLine := goodIn_r _ [10, 11, 12, 13, 14, 9, 15, 16, 17, 18, 19, 20, 21, 22, 23, 24, 25, 26, 27, 28, 29, 30, 31, 32, 33, 34, 35, 36, 37, 38, 39, 40, 41, 42, 43, 44, 45, 46, 47] (by decide +kernel) (by decide +kernel)
set_option maxRecDepth 20000 in
theorem gX0_nearest_X0_figureOfLine : GoodIn wsX0_nearest (wsV RX0 94 RX0 yX0_figureOfLine wsX0_figureOfLine) := goodIn_app (goodIn_of _ (by decide +kernel)) ggX0_nearest_X0_figureOfLine
theorem dX0_nearest_0 : decode cX0_nearest 0 = .ok (.iconst (-1), 1) := by decide +kernel
theorem dX0_nearest_1 : decode cX0_nearest 1 = .ok (.istore_n 2, 1) := by decide +kernel
theorem dX0_nearest_2 : decode cX0_nearest 2 = .ok (.lconst 0, 1) := by decide +kernel
theorem dX0_nearest_3 : decode cX0_nearest 3 = .ok (.lstore_n 3, 1) := by decide +kernel
theorem dX0_nearest_4 : decode cX0_nearest 4 = .ok (.iconst 0, 1) := by decide +kernel
theorem dX0_nearest_5 : decode cX0_nearest 5 = .ok (.istore 5, 2) := by decide +kernel
theorem dX0_nearest_7 : decode cX0_nearest 7 = .ok (.iload 5, 2) := by decide +kernel
theorem dX0_nearest_9 : decode cX0_nearest 9 = .ok (.aload_n 0, 1) := by decide +kernel
theorem dX0_nearest_10 : decode cX0_nearest 10 = .ok (.getfield 13, 3) := by decide +kernel
theorem dX0_nearest_13 : decode cX0_nearest 13 = .ok (.if_icmp .ge 42, 3) := by decide +kernel
theorem dX0_nearest_16 : decode cX0_nearest 16 = .ok (.aload_n 0, 1) := by decide +kernel
theorem dX0_nearest_17 : decode cX0_nearest 17 = .ok (.iload 5, 2) := by decide +kernel
theorem dX0_nearest_19 : decode cX0_nearest 19 = .ok (.iconst 2, 1) := by decide +kernel
theorem dX0_nearest_20 : decode cX0_nearest 20 = .ok (.invokevirtual 94, 3) := by decide +kernel
theorem dX0_nearest_23 : decode cX0_nearest 23 = .ok (.i2l, 1) := by decide +kernel
theorem dX0_nearest_24 : decode cX0_nearest 24 = .ok (.iload_n 1, 1) := by decide +kernel
theorem dX0_nearest_25 : decode cX0_nearest 25 = .ok (.i2l, 1) := by decide +kernel
theorem dX0_nearest_26 : decode cX0_nearest 26 = .ok (.lsub, 1) := by decide +kernel
theorem dX0_nearest_27 : decode cX0_nearest 27 = .ok (.invokestatic 107, 3) := by decide +kernel
theorem dX0_nearest_30 : decode cX0_nearest 30 = .ok (.lstore 6, 2) := by decide +kernel
theorem dX0_nearest_32 : decode cX0_nearest 32 = .ok (.iload_n 2, 1) := by decide +kernel
theorem dX0_nearest_33 : decode cX0_nearest 33 = .ok (.ifCond .lt 10, 3) := by decide +kernel
theorem dX0_nearest_36 : decode cX0_nearest 36 = .ok (.lload 6, 2) := by decide +kernel
theorem dX0_nearest_38 : decode cX0_nearest 38 = .ok (.lload_n 3, 1) := by decide +kernel
theorem dX0_nearest_39 : decode cX0_nearest 39 = .ok (.lcmp, 1) := by decide +kernel
theorem dX0_nearest_40 : decode cX0_nearest 40 = .ok (.ifCond .ge 9, 3) := by decide +kernel
theorem dX0_nearest_43 : decode cX0_nearest 43 = .ok (.iload 5, 2) := by decide +kernel
theorem dX0_nearest_45 : decode cX0_nearest 45 = .ok (.istore_n 2, 1) := by decide +kernel
theorem dX0_nearest_46 : decode cX0_nearest 46 = .ok (.lload 6, 2) := by decide +kernel
theorem dX0_nearest_48 : decode cX0_nearest 48 = .ok (.lstore_n 3, 1) := by decide +kernel
theorem dX0_nearest_49 : decode cX0_nearest 49 = .ok (.iinc 5 1, 3) := by decide +kernel
theorem dX0_nearest_52 : decode cX0_nearest 52 = .ok (.goto (-45), 3) := by decide +kernel
theorem dX0_nearest_55 : decode cX0_nearest 55 = .ok (.iload_n 2, 1) := by decide +kernel
theorem dX0_nearest_56 : decode cX0_nearest 56 = .ok (.ireturn, 1) := by decide +kernel
set_option maxRecDepth 20000 in
theorem ggX0_mean_X0_sumOverLines : GoodIn wsX0_mean wsX0_sumOverLines := goodIn_r _ [5, 6, 7, 8, 9, 4, 10, 11, 12, 13, 14, 15, 16, 17, 18, 19, 20, 21, 22, 23, 24, 25, 26, 27, 28, 29, 30, 31, 32, 33, 34, 35, 36, 37, 38, 39, 40, 41, 42, 43, 44, 45, 46, 47] (by decide +kernel) (by decide +kernel)
set_option maxRecDepth 20000 in
theorem gX0_mean_X0_sumOverLines : GoodIn wsX0_mean (wsV RX0 101 RX0 yX0_sumOverLines wsX0_sumOverLines) := goodIn_app (goodIn_of _ (by decide +kernel)) ggX0_mean_X0_sumOverLines
theorem dX0_mean_0 : decode cX0_mean 0 = .ok (.aload_n 0, 1) := by decide +kernel
theorem dX0_mean_1 : decode cX0_mean 1 = .ok (.iconst 0, 1) := by decide +kernel
theorem dX0_mean_2 : decode cX0_mean 2 = .ok (.invokevirtual 101, 3) := by decide +kernel
theorem dX0_mean_5 : decode cX0_mean 5 = .ok (.istore_n 1, 1) := by decide +kernel
theorem dX0_mean_6 : decode cX0_mean 6 = .ok (.iload_n 1, 1) := by decide +kernel
theorem dX0_mean_7 : decode cX0_mean 7 = .ok (.ifCond .ne 5, 3) := by decide +kernel
theorem dX0_mean_10 : decode cX0_mean 10 = .ok (.dconst 0, 1) := by decide +kernel
theorem dX0_mean_11 : decode cX0_mean 11 = .ok (.dreturn, 1) := by decide +kernel
theorem dX0_mean_12 : decode cX0_mean 12 = .ok (.aload_n 0, 1) := by decide +kernel
theorem dX0_mean_13 : decode cX0_mean 13 = .ok (.iconst 2, 1) := by decide +kernel
theorem dX0_mean_14 : decode cX0_mean 14 = .ok (.invokevirtual 101, 3) := by decide +kernel
theorem dX0_mean_17 : decode cX0_mean 17 = .ok (.i2d, 1) := by decide +kernel
theorem dX0_mean_18 : decode cX0_mean 18 = .ok (.iload_n 1, 1) := by decide +kernel
theorem dX0_mean_19 : decode cX0_mean 19 = .ok (.i2d, 1) := by decide +kernel
theorem dX0_mean_20 : decode cX0_mean 20 = .ok (.ddiv, 1) := by decide +kernel
theorem dX0_mean_21 : decode cX0_mean 21 = .ok (.dreturn, 1) := by decide +kernel
theorem dX0_checkLine_0 : decode cX0_checkLine 0 = .ok (.iload_n 1, 1) := by decide +kernel
theorem dX0_checkLine_1 : decode cX0_checkLine 1 = .ok (.ifCond .lt 11, 3) := by decide +kernel
theorem dX0_checkLine_4 : decode cX0_checkLine 4 = .ok (.iload_n 1, 1) := by decide +kernel
theorem dX0_checkLine_5 : decode cX0_checkLine 5 = .ok (.aload_n 0, 1) := by decide +kernel
theorem dX0_checkLine_6 : decode cX0_checkLine 6 = .ok (.getfield 13, 3) := by decide +kernel
theorem dX0_checkLine_9 : decode cX0_checkLine 9 = .ok (.if_icmp .lt 13, 3) := by decide +kernel
theorem dX0_checkLine_12 : decode cX0_checkLine 12 = .ok (.new 38, 3) := by decide +kernel
theorem dX0_checkLine_15 : decode cX0_checkLine 15 = .ok (.dup, 1) := by decide +kernel
theorem dX0_checkLine_16 : decode cX0_checkLine 16 = .ok (.ldc 133, 2) := by decide +kernel
theorem dX0_checkLine_18 : decode cX0_checkLine 18 = .ok (.invokespecial 42, 3) := by decide +kernel
theorem dX0_checkLine_21 : decode cX0_checkLine 21 = .ok (.athrow, 1) := by decide +kernel
theorem dX0_checkLine_22 : decode cX0_checkLine 22 = .ok (.return_, 1) := by decide +kernel
set_option maxRecDepth 20000 in
theorem ggX0_checkWordOfLine_X0_checkLine : GoodIn wsX0_checkWordOfLine wsX0_checkLine := goodIn_ca (goodIn_r _ [8, 1, 2, 9, 10, 11, 12, 13, 14, 15, 16, 17] (by decide +kernel) (by decide +kernel)) (goodIn_sub (fun _ h => List.mem_cons_of_mem _ (List.mem_append_right _ h)) (by decide +kernel))
set_option maxRecDepth 20000 in
theorem gX0_checkWordOfLine_X0_checkLine : GoodIn wsX0_checkWordOfLine (wsV RX0 67 RX0 yX0_checkLine wsX0_checkLine) := goodIn_app (goodIn_of _ (by decide +kernel)) ggX0_checkWordOfLine_X0_checkLine
theorem dX0_checkWordOfLine_0 : decode cX0_checkWordOfLine 0 = .ok (.aload_n 0, 1) := by decide +kernel
theorem dX0_checkWordOfLine_1 : decode cX0_checkWordOfLine 1 = .ok (.iload_n 1, 1) := by decide +kernel
theorem dX0_checkWordOfLine_2 : decode cX0_checkWordOfLine 2 = .ok (.invokevirtual 67, 3) := by decide +kernel
theorem dX0_checkWordOfLine_5 : decode cX0_checkWordOfLine 5 = .ok (.iload_n 2, 1) := by decide +kernel
theorem dX0_checkWordOfLine_6 : decode cX0_checkWordOfLine 6 = .ok (.ifCond .lt 13, 3) := by decide +kernel
theorem dX0_checkWordOfLine_9 : decode cX0_checkWordOfLine 9 = .ok (.iload_n 2, 1) := by decide +kernel
theorem dX0_checkWordOfLine_10 : decode cX0_checkWordOfLine 10 = .ok (.aload_n 0, 1) := by decide +kernel
theorem dX0_checkWordOfLine_11 : decode cX0_checkWordOfLine 11 = .ok (.getfield 16, 3) := by decide +kernel
theorem dX0_checkWordOfLine_14 : decode cX0_checkWordOfLine 14 = .ok (.iload_n 1, 1) := by decide +kernel
theorem dX0_checkWordOfLine_15 : decode cX0_checkWordOfLine 15 = .ok (.iaload, 1) := by decide +kernel
theorem dX0_checkWordOfLine_16 : decode cX0_checkWordOfLine 16 = .ok (.if_icmp .lt 13, 3) := by decide +kernel
theorem dX0_checkWordOfLine_19 : decode cX0_checkWordOfLine 19 = .ok (.new 38, 3) := by decide +kernel
theorem dX0_checkWordOfLine_22 : decode cX0_checkWordOfLine 22 = .ok (.dup, 1) := by decide +kernel
theorem dX0_checkWordOfLine_23 : decode cX0_checkWordOfLine 23 = .ok (.ldc 135, 2) := by decide +kernel
theorem dX0_checkWordOfLine_25 : decode cX0_checkWordOfLine 25 = .ok (.invokespecial 42, 3) := by decide +kernel
theorem dX0_checkWordOfLine_28 : decode cX0_checkWordOfLine 28 = .ok (.athrow, 1) := by decide +kernel
theorem dX0_checkWordOfLine_29 : decode cX0_checkWordOfLine 29 = .ok (.return_, 1) := by decide +kernel
theorem dX0_checkWhat_0 : decode cX0_checkWhat 0 = .ok (.iload_n 0, 1) := by decide +kernel
theorem dX0_checkWhat_1 : decode cX0_checkWhat 1 = .ok (.ifCond .lt 8, 3) := by decide +kernel
theorem dX0_checkWhat_4 : decode cX0_checkWhat 4 = .ok (.iload_n 0, 1) := by decide +kernel
theorem dX0_checkWhat_5 : decode cX0_checkWhat 5 = .ok (.iload_n 1, 1) := by decide +kernel
theorem dX0_checkWhat_6 : decode cX0_checkWhat 6 = .ok (.if_icmp .lt 13, 3) := by decide +kernel
theorem dX0_checkWhat_9 : decode cX0_checkWhat 9 = .ok (.new 38, 3) := by decide +kernel
theorem dX0_checkWhat_12 : decode cX0_checkWhat 12 = .ok (.dup, 1) := by decide +kernel
theorem dX0_checkWhat_13 : decode cX0_checkWhat 13 = .ok (.ldc 137, 2) := by decide +kernel
theorem dX0_checkWhat_15 : decode cX0_checkWhat 15 = .ok (.invokespecial 42, 3) := by decide +kernel
theorem dX0_checkWhat_18 : decode cX0_checkWhat 18 = .ok (.athrow, 1) := by decide +kernel
theorem dX0_checkWhat_19 : decode cX0_checkWhat 19 = .ok (.return_, 1) := by decide +kernel
set_option maxRecDepth 20000 in
theorem ggX0_checkWord_X0_isWord : GoodIn wsX0_checkWord wsX0_isWord := goodIn_r _ [6, 7] (by decide +kernel) (by decide +kernel)
set_option maxRecDepth 20000 in
theorem gX0_checkWord_X0_isWord : GoodIn wsX0_checkWord (va_wsS RX0 139 yX0_isWord wsX0_isWord) := goodIn_app (goodIn_of _ (by decide +kernel)) ggX0_checkWord_X0_isWord
theorem dX0_checkWord_0 : decode cX0_checkWord 0 = .ok (.iload_n 0, 1) := by decide +kernel
theorem dX0_checkWord_1 : decode cX0_checkWord 1 = .ok (.invokestatic 139, 3) := by decide +kernel
theorem dX0_checkWord_4 : decode cX0_checkWord 4 = .ok (.ifCond .ne 13, 3) := by decide +kernel
theorem dX0_checkWord_7 : decode cX0_checkWord 7 = .ok (.new 143, 3) := by decide +kernel
theorem dX0_checkWord_10 : decode cX0_checkWord 10 = .ok (.dup, 1) := by decide +kernel
theorem dX0_checkWord_11 : decode cX0_checkWord 11 = .ok (.ldc 145, 2) := by decide +kernel
theorem dX0_checkWord_13 : decode cX0_checkWord 13 = .ok (.invokespecial 147, 3) := by decide +kernel
theorem dX0_checkWord_16 : decode cX0_checkWord 16 = .ok (.athrow, 1) := by decide +kernel
theorem dX0_checkWord_17 : decode cX0_checkWord 17 = .ok (.return_, 1) := by decide +kernel
theorem dX0_worthOfLetter_0 : decode cX0_worthOfLetter 0 = .ok (.aload_n 0, 1) := by decide +kernel
theorem dX0_worthOfLetter_1 : decode cX0_worthOfLetter 1 = .ok (.getfield 9, 3) := by decide +kernel
theorem dX0_worthOfLetter_4 : decode cX0_worthOfLetter 4 = .ok (.iconst 2, 1) := by decide +kernel
theorem dX0_worthOfLetter_5 : decode cX0_worthOfLetter 5 = .ok (.if_icmp .ne 15, 3) := by decide +kernel
theorem dX0_worthOfLetter_8 : decode cX0_worthOfLetter 8 = .ok (.iload_n 1, 1) := by decide +kernel
theorem dX0_worthOfLetter_9 : decode cX0_worthOfLetter 9 = .ok (.iload_n 1, 1) := by decide +kernel
theorem dX0_worthOfLetter_10 : decode cX0_worthOfLetter 10 = .ok (.imul, 1) := by decide +kernel
theorem dX0_worthOfLetter_11 : decode cX0_worthOfLetter 11 = .ok (.bipush 7, 2) := by decide +kernel
theorem dX0_worthOfLetter_13 : decode cX0_worthOfLetter 13 = .ok (.imul, 1) := by decide +kernel
theorem dX0_worthOfLetter_14 : decode cX0_worthOfLetter 14 = .ok (.bipush 101, 2) := by decide +kernel
theorem dX0_worthOfLetter_16 : decode cX0_worthOfLetter 16 = .ok (.irem, 1) := by decide +kernel
theorem dX0_worthOfLetter_17 : decode cX0_worthOfLetter 17 = .ok (.iconst 1, 1) := by decide +kernel
theorem dX0_worthOfLetter_18 : decode cX0_worthOfLetter 18 = .ok (.iadd, 1) := by decide +kernel
theorem dX0_worthOfLetter_19 : decode cX0_worthOfLetter 19 = .ok (.ireturn, 1) := by decide +kernel
theorem dX0_worthOfLetter_20 : decode cX0_worthOfLetter 20 = .ok (.aload_n 0, 1) := by decide +kernel
theorem dX0_worthOfLetter_21 : decode cX0_worthOfLetter 21 = .ok (.getfield 9, 3) := by decide +kernel
theorem dX0_worthOfLetter_24 : decode cX0_worthOfLetter 24 = .ok (.iconst 1, 1) := by decide +kernel
theorem dX0_worthOfLetter_25 : decode cX0_worthOfLetter 25 = .ok (.if_icmp .eq 9, 3) := by decide +kernel
theorem dX0_worthOfLetter_28 : decode cX0_worthOfLetter 28 = .ok (.iload_n 1, 1) := by decide +kernel
theorem dX0_worthOfLetter_29 : decode cX0_worthOfLetter 29 = .ok (.bipush 9, 2) := by decide +kernel
theorem dX0_worthOfLetter_31 : decode cX0_worthOfLetter 31 = .ok (.if_icmp .gt 5, 3) := by decide +kernel
theorem dX0_worthOfLetter_34 : decode cX0_worthOfLetter 34 = .ok (.iload_n 1, 1) := by decide +kernel
theorem dX0_worthOfLetter_35 : decode cX0_worthOfLetter 35 = .ok (.ireturn, 1) := by decide +kernel
theorem dX0_worthOfLetter_36 : decode cX0_worthOfLetter 36 = .ok (.iload_n 1, 1) := by decide +kernel
theorem dX0_worthOfLetter_37 : decode cX0_worthOfLetter 37 = .ok (.bipush 18, 2) := by decide +kernel
theorem dX0_worthOfLetter_39 : decode cX0_worthOfLetter 39 = .ok (.if_icmp .gt 13, 3) := by decide +kernel
theorem dX0_worthOfLetter_42 : decode cX0_worthOfLetter 42 = .ok (.iload_n 1, 1) := by decide +kernel
theorem dX0_worthOfLetter_43 : decode cX0_worthOfLetter 43 = .ok (.bipush 9, 2) := by decide +kernel
theorem dX0_worthOfLetter_45 : decode cX0_worthOfLetter 45 = .ok (.isub, 1) := by decide +kernel
theorem dX0_worthOfLetter_46 : decode cX0_worthOfLetter 46 = .ok (.bipush 10, 2) := by decide +kernel
theorem dX0_worthOfLetter_48 : decode cX0_worthOfLetter 48 = .ok (.imul, 1) := by decide +kernel
theorem dX0_worthOfLetter_49 : decode cX0_worthOfLetter 49 = .ok (.goto 10, 3) := by decide +kernel
theorem dX0_worthOfLetter_52 : decode cX0_worthOfLetter 52 = .ok (.iload_n 1, 1) := by decide +kernel
theorem dX0_worthOfLetter_53 : decode cX0_worthOfLetter 53 = .ok (.bipush 18, 2) := by decide +kernel
theorem dX0_worthOfLetter_55 : decode cX0_worthOfLetter 55 = .ok (.isub, 1) := by decide +kernel
theorem dX0_worthOfLetter_56 : decode cX0_worthOfLetter 56 = .ok (.bipush 100, 2) := by decide +kernel
theorem dX0_worthOfLetter_58 : decode cX0_worthOfLetter 58 = .ok (.imul, 1) := by decide +kernel
theorem dX0_worthOfLetter_59 : decode cX0_worthOfLetter 59 = .ok (.ireturn, 1) := by decide +kernel
theorem dX0_isWord_0 : decode cX0_isWord 0 = .ok (.iload_n 0, 1) := by decide +kernel
theorem dX0_isWord_1 : decode cX0_isWord 1 = .ok (.ifCond .le 9, 3) := by decide +kernel
theorem dX0_isWord_4 : decode cX0_isWord 4 = .ok (.iload_n 0, 1) := by decide +kernel
theorem dX0_isWord_5 : decode cX0_isWord 5 = .ok (.ldc 150, 2) := by decide +kernel
theorem dX0_isWord_7 : decode cX0_isWord 7 = .ok (.if_icmp .lt 5, 3) := by decide +kernel
theorem dX0_isWord_10 : decode cX0_isWord 10 = .ok (.iconst 0, 1) := by decide +kernel
theorem dX0_isWord_11 : decode cX0_isWord 11 = .ok (.ireturn, 1) := by decide +kernel
theorem dX0_isWord_12 : decode cX0_isWord 12 = .ok (.iload_n 0, 1) := by decide +kernel
theorem dX0_isWord_13 : decode cX0_isWord 13 = .ok (.istore_n 1, 1) := by decide +kernel
theorem dX0_isWord_14 : decode cX0_isWord 14 = .ok (.iconst 0, 1) := by decide +kernel
theorem dX0_isWord_15 : decode cX0_isWord 15 = .ok (.istore_n 2, 1) := by decide +kernel
theorem dX0_isWord_16 : decode cX0_isWord 16 = .ok (.iload_n 2, 1) := by decide +kernel
theorem dX0_isWord_17 : decode cX0_isWord 17 = .ok (.bipush 6, 2) := by decide +kernel
theorem dX0_isWord_19 : decode cX0_isWord 19 = .ok (.if_icmp .ge 27, 3) := by decide +kernel
theorem dX0_isWord_22 : decode cX0_isWord 22 = .ok (.iload_n 1, 1) := by decide +kernel
theorem dX0_isWord_23 : decode cX0_isWord 23 = .ok (.ifCond .le 23, 3) := by decide +kernel
theorem dX0_isWord_26 : decode cX0_isWord 26 = .ok (.iload_n 1, 1) := by decide +kernel
theorem dX0_isWord_27 : decode cX0_isWord 27 = .ok (.bipush 27, 2) := by decide +kernel
theorem dX0_isWord_29 : decode cX0_isWord 29 = .ok (.irem, 1) := by decide +kernel
theorem dX0_isWord_30 : decode cX0_isWord 30 = .ok (.ifCond .ne 5, 3) := by decide +kernel
theorem dX0_isWord_33 : decode cX0_isWord 33 = .ok (.iconst 0, 1) := by decide +kernel
theorem dX0_isWord_34 : decode cX0_isWord 34 = .ok (.ireturn, 1) := by decide +kernel
theorem dX0_isWord_35 : decode cX0_isWord 35 = .ok (.iload_n 1, 1) := by decide +kernel
theorem dX0_isWord_36 : decode cX0_isWord 36 = .ok (.bipush 27, 2) := by decide +kernel
theorem dX0_isWord_38 : decode cX0_isWord 38 = .ok (.idiv, 1) := by decide +kernel
theorem dX0_isWord_39 : decode cX0_isWord 39 = .ok (.istore_n 1, 1) := by decide +kernel
theorem dX0_isWord_40 : decode cX0_isWord 40 = .ok (.iinc 2 1, 3) := by decide +kernel
theorem dX0_isWord_43 : decode cX0_isWord 43 = .ok (.goto (-27), 3) := by decide +kernel
theorem dX0_isWord_46 : decode cX0_isWord 46 = .ok (.iconst 1, 1) := by decide +kernel
theorem dX0_isWord_47 : decode cX0_isWord 47 = .ok (.ireturn, 1) := by decide +kernel
theorem dX0_lengthOf_0 : decode cX0_lengthOf 0 = .ok (.iconst 0, 1) := by decide +kernel
theorem dX0_lengthOf_1 : decode cX0_lengthOf 1 = .ok (.istore_n 1, 1) := by decide +kernel
theorem dX0_lengthOf_2 : decode cX0_lengthOf 2 = .ok (.iload_n 0, 1) := by decide +kernel
theorem dX0_lengthOf_3 : decode cX0_lengthOf 3 = .ok (.istore_n 2, 1) := by decide +kernel
theorem dX0_lengthOf_4 : decode cX0_lengthOf 4 = .ok (.iload_n 1, 1) := by decide +kernel
theorem dX0_lengthOf_5 : decode cX0_lengthOf 5 = .ok (.bipush 6, 2) := by decide +kernel
theorem dX0_lengthOf_7 : decode cX0_lengthOf 7 = .ok (.if_icmp .ge 18, 3) := by decide +kernel
theorem dX0_lengthOf_10 : decode cX0_lengthOf 10 = .ok (.iload_n 2, 1) := by decide +kernel
theorem dX0_lengthOf_11 : decode cX0_lengthOf 11 = .ok (.ifCond .le 14, 3) := by decide +kernel
theorem dX0_lengthOf_14 : decode cX0_lengthOf 14 = .ok (.iload_n 2, 1) := by decide +kernel
theorem dX0_lengthOf_15 : decode cX0_lengthOf 15 = .ok (.bipush 27, 2) := by decide +kernel
theorem dX0_lengthOf_17 : decode cX0_lengthOf 17 = .ok (.idiv, 1) := by decide +kernel
theorem dX0_lengthOf_18 : decode cX0_lengthOf 18 = .ok (.istore_n 2, 1) := by decide +kernel
theorem dX0_lengthOf_19 : decode cX0_lengthOf 19 = .ok (.iinc 1 1, 3) := by decide +kernel
theorem dX0_lengthOf_22 : decode cX0_lengthOf 22 = .ok (.goto (-18), 3) := by decide +kernel
theorem dX0_lengthOf_25 : decode cX0_lengthOf 25 = .ok (.iload_n 1, 1) := by decide +kernel
theorem dX0_lengthOf_26 : decode cX0_lengthOf 26 = .ok (.ireturn, 1) := by decide +kernel
theorem dX0_isMarked_0 : decode cX0_isMarked 0 = .ok (.iload_n 0, 1) := by decide +kernel
theorem dX0_isMarked_1 : decode cX0_isMarked 1 = .ok (.iload_n 1, 1) := by decide +kernel
theorem dX0_isMarked_2 : decode cX0_isMarked 2 = .ok (.ishr, 1) := by decide +kernel
theorem dX0_isMarked_3 : decode cX0_isMarked 3 = .ok (.iconst 1, 1) := by decide +kernel
theorem dX0_isMarked_4 : decode cX0_isMarked 4 = .ok (.iand, 1) := by decide +kernel
theorem dX0_isMarked_5 : decode cX0_isMarked 5 = .ok (.iconst 1, 1) := by decide +kernel
theorem dX0_isMarked_6 : decode cX0_isMarked 6 = .ok (.if_icmp .ne 7, 3) := by decide +kernel
theorem dX0_isMarked_9 : decode cX0_isMarked 9 = .ok (.iconst 1, 1) := by decide +kernel
theorem dX0_isMarked_10 : decode cX0_isMarked 10 = .ok (.goto 4, 3) := by decide +kernel
theorem dX0_isMarked_13 : decode cX0_isMarked 13 = .ok (.iconst 0, 1) := by decide +kernel
theorem dX0_isMarked_14 : decode cX0_isMarked 14 = .ok (.ireturn, 1) := by decide +kernel
set_option maxRecDepth 20000 in
theorem ggX0_worthOfPlaces_X0_lengthOf : GoodIn wsX0_worthOfPlaces wsX0_lengthOf := goodIn_r _ [4] (by decide +kernel) (by decide +kernel)
set_option maxRecDepth 20000 in
theorem gX0_worthOfPlaces_X0_lengthOf : GoodIn wsX0_worthOfPlaces (va_wsS RX0 78 yX0_lengthOf wsX0_lengthOf) := goodIn_app (goodIn_of _ (by decide +kernel)) ggX0_worthOfPlaces_X0_lengthOf
set_option maxRecDepth 20000 in
theorem ggX0_worthOfPlaces_X0_isMarked : GoodIn wsX0_worthOfPlaces wsX0_isMarked := goodIn_r _ [7] (by decide +kernel) (by decide +kernel)
set_option maxRecDepth 20000 in
theorem gX0_worthOfPlaces_X0_isMarked : GoodIn wsX0_worthOfPlaces (va_wsS RX0 83 yX0_isMarked wsX0_isMarked) := goodIn_app (goodIn_of _ (by decide +kernel)) ggX0_worthOfPlaces_X0_isMarked
set_option maxRecDepth 20000 in
theorem ggX0_worthOfPlaces_X0_worthOfLetter : GoodIn wsX0_worthOfPlaces wsX0_worthOfLetter := goodIn_r _ [11, 12, 13, 14, 15, 16, 17, 18, 19, 20] (by decide +kernel) (by decide +kernel)
set_option maxRecDepth 20000 in
theorem gX0_worthOfPlaces_X0_worthOfLetter : GoodIn wsX0_worthOfPlaces (wsV RX0 47 RX0 yX0_worthOfLetter wsX0_worthOfLetter) := goodIn_app (goodIn_of _ (by decide +kernel)) ggX0_worthOfPlaces_X0_worthOfLetter
theorem dX0_worthOfPlaces_0 : decode cX0_worthOfPlaces 0 = .ok (.iconst 0, 1) := by decide +kernel
theorem dX0_worthOfPlaces_1 : decode cX0_worthOfPlaces 1 = .ok (.istore_n 3, 1) := by decide +kernel
theorem dX0_worthOfPlaces_2 : decode cX0_worthOfPlaces 2 = .ok (.iload_n 1, 1) := by decide +kernel
theorem dX0_worthOfPlaces_3 : decode cX0_worthOfPlaces 3 = .ok (.istore 4, 2) := by decide +kernel
theorem dX0_worthOfPlaces_5 : decode cX0_worthOfPlaces 5 = .ok (.iload_n 1, 1) := by decide +kernel
theorem dX0_worthOfPlaces_6 : decode cX0_worthOfPlaces 6 = .ok (.invokestatic 78, 3) := by decide +kernel
theorem dX0_worthOfPlaces_9 : decode cX0_worthOfPlaces 9 = .ok (.iconst 1, 1) := by decide +kernel
theorem dX0_worthOfPlaces_10 : decode cX0_worthOfPlaces 10 = .ok (.isub, 1) := by decide +kernel
theorem dX0_worthOfPlaces_11 : decode cX0_worthOfPlaces 11 = .ok (.istore 5, 2) := by decide +kernel
theorem dX0_worthOfPlaces_13 : decode cX0_worthOfPlaces 13 = .ok (.iload 5, 2) := by decide +kernel
theorem dX0_worthOfPlaces_15 : decode cX0_worthOfPlaces 15 = .ok (.ifCond .lt 37, 3) := by decide +kernel
theorem dX0_worthOfPlaces_18 : decode cX0_worthOfPlaces 18 = .ok (.iload_n 2, 1) := by decide +kernel
theorem dX0_worthOfPlaces_19 : decode cX0_worthOfPlaces 19 = .ok (.iload 5, 2) := by decide +kernel
theorem dX0_worthOfPlaces_21 : decode cX0_worthOfPlaces 21 = .ok (.invokestatic 83, 3) := by decide +kernel
theorem dX0_worthOfPlaces_24 : decode cX0_worthOfPlaces 24 = .ok (.ifCond .eq 15, 3) := by decide +kernel
theorem dX0_worthOfPlaces_27 : decode cX0_worthOfPlaces 27 = .ok (.iload_n 3, 1) := by decide +kernel
theorem dX0_worthOfPlaces_28 : decode cX0_worthOfPlaces 28 = .ok (.aload_n 0, 1) := by decide +kernel
theorem dX0_worthOfPlaces_29 : decode cX0_worthOfPlaces 29 = .ok (.iload 4, 2) := by decide +kernel
theorem dX0_worthOfPlaces_31 : decode cX0_worthOfPlaces 31 = .ok (.bipush 27, 2) := by decide +kernel
theorem dX0_worthOfPlaces_33 : decode cX0_worthOfPlaces 33 = .ok (.irem, 1) := by decide +kernel
theorem dX0_worthOfPlaces_34 : decode cX0_worthOfPlaces 34 = .ok (.invokevirtual 47, 3) := by decide +kernel
theorem dX0_worthOfPlaces_37 : decode cX0_worthOfPlaces 37 = .ok (.iadd, 1) := by decide +kernel
theorem dX0_worthOfPlaces_38 : decode cX0_worthOfPlaces 38 = .ok (.istore_n 3, 1) := by decide +kernel
theorem dX0_worthOfPlaces_39 : decode cX0_worthOfPlaces 39 = .ok (.iload 4, 2) := by decide +kernel
theorem dX0_worthOfPlaces_41 : decode cX0_worthOfPlaces 41 = .ok (.bipush 27, 2) := by decide +kernel
theorem dX0_worthOfPlaces_43 : decode cX0_worthOfPlaces 43 = .ok (.idiv, 1) := by decide +kernel
theorem dX0_worthOfPlaces_44 : decode cX0_worthOfPlaces 44 = .ok (.istore 4, 2) := by decide +kernel
theorem dX0_worthOfPlaces_46 : decode cX0_worthOfPlaces 46 = .ok (.iinc 5 (-1), 3) := by decide +kernel
theorem dX0_worthOfPlaces_49 : decode cX0_worthOfPlaces 49 = .ok (.goto (-36), 3) := by decide +kernel
theorem dX0_worthOfPlaces_52 : decode cX0_worthOfPlaces 52 = .ok (.iload_n 3, 1) := by decide +kernel
theorem dX0_worthOfPlaces_53 : decode cX0_worthOfPlaces 53 = .ok (.ireturn, 1) := by decide +kernel
set_option maxRecDepth 20000 in
theorem ggX0_figureOfWord_X0_lengthOf : GoodIn wsX0_figureOfWord wsX0_lengthOf := goodIn_r _ [6] (by decide +kernel) (by decide +kernel)
set_option maxRecDepth 20000 in
theorem gX0_figureOfWord_X0_lengthOf : GoodIn wsX0_figureOfWord (va_wsS RX0 78 yX0_lengthOf wsX0_lengthOf) := goodIn_app (goodIn_of _ (by decide +kernel)) ggX0_figureOfWord_X0_lengthOf
set_option maxRecDepth 20000 in
theorem ggX0_figureOfWord_X0_worthOfPlaces : GoodIn wsX0_figureOfWord wsX0_worthOfPlaces := goodIn_r _ [10, 3, 4, 5, 6, 11, 12, 13, 14, 15, 16, 17, 18, 26, 27, 28, 29, 30, 31, 32, 33] (by decide +kernel) (by decide +kernel)
set_option maxRecDepth 20000 in
theorem gX0_figureOfWord_X0_worthOfPlaces : GoodIn wsX0_figureOfWord (wsV RX0 55 RX0 yX0_worthOfPlaces wsX0_worthOfPlaces) := goodIn_app (goodIn_of _ (by decide +kernel)) ggX0_figureOfWord_X0_worthOfPlaces
set_option maxRecDepth 20000 in
theorem ggX0_figureOfWord_J6_bitCount_0f7a4 : GoodIn wsX0_figureOfWord wsJ6_bitCount_0f7a4 := goodIn_r _ [22, 23, 24, 25] (by decide +kernel) (by decide +kernel)
set_option maxRecDepth 20000 in
theorem gX0_figureOfWord_J6_bitCount_0f7a4 : GoodIn wsX0_figureOfWord (va_wsS RX0 151 yJ6_bitCount_0f7a4 wsJ6_bitCount_0f7a4) := goodIn_app (goodIn_of _ (by decide +kernel)) ggX0_figureOfWord_J6_bitCount_0f7a4
theorem dX0_figureOfWord_0 : decode cX0_figureOfWord 0 = .ok (.iload_n 3, 1) := by decide +kernel
theorem dX0_figureOfWord_1 : decode cX0_figureOfWord 1 = .ok (.tableswitch 79 0 3 #[31, 40, 52, 67], 31) := by decide +kernel
theorem dX0_figureOfWord_32 : decode cX0_figureOfWord 32 = .ok (.aload_n 0, 1) := by decide +kernel
theorem dX0_figureOfWord_33 : decode cX0_figureOfWord 33 = .ok (.getfield 22, 3) := by decide +kernel
theorem dX0_figureOfWord_36 : decode cX0_figureOfWord 36 = .ok (.iload_n 1, 1) := by decide +kernel
theorem dX0_figureOfWord_37 : decode cX0_figureOfWord 37 = .ok (.aaload, 1) := by decide +kernel
theorem dX0_figureOfWord_38 : decode cX0_figureOfWord 38 = .ok (.iload_n 2, 1) := by decide +kernel
theorem dX0_figureOfWord_39 : decode cX0_figureOfWord 39 = .ok (.iaload, 1) := by decide +kernel
theorem dX0_figureOfWord_40 : decode cX0_figureOfWord 40 = .ok (.ireturn, 1) := by decide +kernel
theorem dX0_figureOfWord_41 : decode cX0_figureOfWord 41 = .ok (.aload_n 0, 1) := by decide +kernel
theorem dX0_figureOfWord_42 : decode cX0_figureOfWord 42 = .ok (.getfield 22, 3) := by decide +kernel
theorem dX0_figureOfWord_45 : decode cX0_figureOfWord 45 = .ok (.iload_n 1, 1) := by decide +kernel
theorem dX0_figureOfWord_46 : decode cX0_figureOfWord 46 = .ok (.aaload, 1) := by decide +kernel
theorem dX0_figureOfWord_47 : decode cX0_figureOfWord 47 = .ok (.iload_n 2, 1) := by decide +kernel
theorem dX0_figureOfWord_48 : decode cX0_figureOfWord 48 = .ok (.iaload, 1) := by decide +kernel
theorem dX0_figureOfWord_49 : decode cX0_figureOfWord 49 = .ok (.invokestatic 78, 3) := by decide +kernel
theorem dX0_figureOfWord_52 : decode cX0_figureOfWord 52 = .ok (.ireturn, 1) := by decide +kernel
theorem dX0_figureOfWord_53 : decode cX0_figureOfWord 53 = .ok (.aload_n 0, 1) := by decide +kernel
theorem dX0_figureOfWord_54 : decode cX0_figureOfWord 54 = .ok (.aload_n 0, 1) := by decide +kernel
theorem dX0_figureOfWord_55 : decode cX0_figureOfWord 55 = .ok (.getfield 22, 3) := by decide +kernel
theorem dX0_figureOfWord_58 : decode cX0_figureOfWord 58 = .ok (.iload_n 1, 1) := by decide +kernel
theorem dX0_figureOfWord_59 : decode cX0_figureOfWord 59 = .ok (.aaload, 1) := by decide +kernel
theorem dX0_figureOfWord_60 : decode cX0_figureOfWord 60 = .ok (.iload_n 2, 1) := by decide +kernel
theorem dX0_figureOfWord_61 : decode cX0_figureOfWord 61 = .ok (.iaload, 1) := by decide +kernel
theorem dX0_figureOfWord_62 : decode cX0_figureOfWord 62 = .ok (.bipush 63, 2) := by decide +kernel
theorem dX0_figureOfWord_64 : decode cX0_figureOfWord 64 = .ok (.invokevirtual 55, 3) := by decide +kernel
theorem dX0_figureOfWord_67 : decode cX0_figureOfWord 67 = .ok (.ireturn, 1) := by decide +kernel
theorem dX0_figureOfWord_68 : decode cX0_figureOfWord 68 = .ok (.aload_n 0, 1) := by decide +kernel
theorem dX0_figureOfWord_69 : decode cX0_figureOfWord 69 = .ok (.getfield 25, 3) := by decide +kernel
theorem dX0_figureOfWord_72 : decode cX0_figureOfWord 72 = .ok (.iload_n 1, 1) := by decide +kernel
theorem dX0_figureOfWord_73 : decode cX0_figureOfWord 73 = .ok (.aaload, 1) := by decide +kernel
theorem dX0_figureOfWord_74 : decode cX0_figureOfWord 74 = .ok (.iload_n 2, 1) := by decide +kernel
theorem dX0_figureOfWord_75 : decode cX0_figureOfWord 75 = .ok (.iaload, 1) := by decide +kernel
theorem dX0_figureOfWord_76 : decode cX0_figureOfWord 76 = .ok (.invokestatic 151, 3) := by decide +kernel
theorem dX0_figureOfWord_79 : decode cX0_figureOfWord 79 = .ok (.ireturn, 1) := by decide +kernel
theorem dX0_figureOfWord_80 : decode cX0_figureOfWord 80 = .ok (.aload_n 0, 1) := by decide +kernel
theorem dX0_figureOfWord_81 : decode cX0_figureOfWord 81 = .ok (.aload_n 0, 1) := by decide +kernel
theorem dX0_figureOfWord_82 : decode cX0_figureOfWord 82 = .ok (.getfield 22, 3) := by decide +kernel
theorem dX0_figureOfWord_85 : decode cX0_figureOfWord 85 = .ok (.iload_n 1, 1) := by decide +kernel
theorem dX0_figureOfWord_86 : decode cX0_figureOfWord 86 = .ok (.aaload, 1) := by decide +kernel
theorem dX0_figureOfWord_87 : decode cX0_figureOfWord 87 = .ok (.iload_n 2, 1) := by decide +kernel
theorem dX0_figureOfWord_88 : decode cX0_figureOfWord 88 = .ok (.iaload, 1) := by decide +kernel
theorem dX0_figureOfWord_89 : decode cX0_figureOfWord 89 = .ok (.aload_n 0, 1) := by decide +kernel
theorem dX0_figureOfWord_90 : decode cX0_figureOfWord 90 = .ok (.getfield 25, 3) := by decide +kernel
theorem dX0_figureOfWord_93 : decode cX0_figureOfWord 93 = .ok (.iload_n 1, 1) := by decide +kernel
theorem dX0_figureOfWord_94 : decode cX0_figureOfWord 94 = .ok (.aaload, 1) := by decide +kernel
theorem dX0_figureOfWord_95 : decode cX0_figureOfWord 95 = .ok (.iload_n 2, 1) := by decide +kernel
theorem dX0_figureOfWord_96 : decode cX0_figureOfWord 96 = .ok (.iaload, 1) := by decide +kernel
theorem dX0_figureOfWord_97 : decode cX0_figureOfWord 97 = .ok (.invokevirtual 55, 3) := by decide +kernel
theorem dX0_figureOfWord_100 : decode cX0_figureOfWord 100 = .ok (.ireturn, 1) := by decide +kernel
set_option maxRecDepth 20000 in
theorem ggX0_figureOfLine_X0_figureOfWord : GoodIn wsX0_figureOfLine wsX0_figureOfWord := goodIn_r _ [6, 7, 8, 9, 10, 5, 11, 12, 13, 14, 15, 16, 17, 18, 19, 20, 21, 22, 23, 24, 25, 26, 27, 28, 29, 30, 31, 32, 33, 34, 35, 36, 37, 38] (by decide +kernel) (by decide +kernel)
set_option maxRecDepth 20000 in
theorem gX0_figureOfLine_X0_figureOfWord : GoodIn wsX0_figureOfLine (wsV RX0 90 RX0 yX0_figureOfWord wsX0_figureOfWord) := goodIn_app (goodIn_of _ (by decide +kernel)) ggX0_figureOfLine_X0_figureOfWord
theorem dX0_figureOfLine_0 : decode cX0_figureOfLine 0 = .ok (.iload_n 2, 1) := by decide +kernel
theorem dX0_figureOfLine_1 : decode cX0_figureOfLine 1 = .ok (.ifCond .ne 10, 3) := by decide +kernel
theorem dX0_figureOfLine_4 : decode cX0_figureOfLine 4 = .ok (.aload_n 0, 1) := by decide +kernel
theorem dX0_figureOfLine_5 : decode cX0_figureOfLine 5 = .ok (.getfield 16, 3) := by decide +kernel
theorem dX0_figureOfLine_8 : decode cX0_figureOfLine 8 = .ok (.iload_n 1, 1) := by decide +kernel
theorem dX0_figureOfLine_9 : decode cX0_figureOfLine 9 = .ok (.iaload, 1) := by decide +kernel
theorem dX0_figureOfLine_10 : decode cX0_figureOfLine 10 = .ok (.ireturn, 1) := by decide +kernel
theorem dX0_figureOfLine_11 : decode cX0_figureOfLine 11 = .ok (.iconst 0, 1) := by decide +kernel
theorem dX0_figureOfLine_12 : decode cX0_figureOfLine 12 = .ok (.istore_n 3, 1) := by decide +kernel
theorem dX0_figureOfLine_13 : decode cX0_figureOfLine 13 = .ok (.iconst 0, 1) := by decide +kernel
theorem dX0_figureOfLine_14 : decode cX0_figureOfLine 14 = .ok (.istore 4, 2) := by decide +kernel
theorem dX0_figureOfLine_16 : decode cX0_figureOfLine 16 = .ok (.iload 4, 2) := by decide +kernel
theorem dX0_figureOfLine_18 : decode cX0_figureOfLine 18 = .ok (.aload_n 0, 1) := by decide +kernel
theorem dX0_figureOfLine_19 : decode cX0_figureOfLine 19 = .ok (.getfield 16, 3) := by decide +kernel
theorem dX0_figureOfLine_22 : decode cX0_figureOfLine 22 = .ok (.iload_n 1, 1) := by decide +kernel
theorem dX0_figureOfLine_23 : decode cX0_figureOfLine 23 = .ok (.iaload, 1) := by decide +kernel
theorem dX0_figureOfLine_24 : decode cX0_figureOfLine 24 = .ok (.if_icmp .ge 20, 3) := by decide +kernel
theorem dX0_figureOfLine_27 : decode cX0_figureOfLine 27 = .ok (.iload_n 3, 1) := by decide +kernel
theorem dX0_figureOfLine_28 : decode cX0_figureOfLine 28 = .ok (.aload_n 0, 1) := by decide +kernel
theorem dX0_figureOfLine_29 : decode cX0_figureOfLine 29 = .ok (.iload_n 1, 1) := by decide +kernel
theorem dX0_figureOfLine_30 : decode cX0_figureOfLine 30 = .ok (.iload 4, 2) := by decide +kernel
theorem dX0_figureOfLine_32 : decode cX0_figureOfLine 32 = .ok (.iload_n 2, 1) := by decide +kernel
theorem dX0_figureOfLine_33 : decode cX0_figureOfLine 33 = .ok (.invokevirtual 90, 3) := by decide +kernel
theorem dX0_figureOfLine_36 : decode cX0_figureOfLine 36 = .ok (.iadd, 1) := by decide +kernel
theorem dX0_figureOfLine_37 : decode cX0_figureOfLine 37 = .ok (.istore_n 3, 1) := by decide +kernel
theorem dX0_figureOfLine_38 : decode cX0_figureOfLine 38 = .ok (.iinc 4 1, 3) := by decide +kernel
theorem dX0_figureOfLine_41 : decode cX0_figureOfLine 41 = .ok (.goto (-25), 3) := by decide +kernel
theorem dX0_figureOfLine_44 : decode cX0_figureOfLine 44 = .ok (.iload_n 3, 1) := by decide +kernel
theorem dX0_figureOfLine_45 : decode cX0_figureOfLine 45 = .ok (.ireturn, 1) := by decide +kernel
set_option maxRecDepth 20000 in
theorem ggX0_sumOverLines_X0_figureOfLine : GoodIn wsX0_sumOverLines wsX0_figureOfLine := goodIn_r _ [6, 7, 8, 9, 10, 5, 11, 12, 13, 14, 15, 16, 17, 18, 19, 20, 21, 22, 23, 24, 25, 26, 27, 28, 29, 30, 31, 32, 33, 34, 35, 36, 37, 38, 39, 40, 41, 42, 43] (by decide +kernel) (by decide +kernel)
set_option maxRecDepth 20000 in
theorem gX0_sumOverLines_X0_figureOfLine : GoodIn wsX0_sumOverLines (wsV RX0 94 RX0 yX0_figureOfLine wsX0_figureOfLine) := goodIn_app (goodIn_of _ (by decide +kernel)) ggX0_sumOverLines_X0_figureOfLine
theorem dX0_sumOverLines_0 : decode cX0_sumOverLines 0 = .ok (.iconst 0, 1) := by decide +kernel
theorem dX0_sumOverLines_1 : decode cX0_sumOverLines 1 = .ok (.istore_n 2, 1) := by decide +kernel
theorem dX0_sumOverLines_2 : decode cX0_sumOverLines 2 = .ok (.iconst 0, 1) := by decide +kernel
theorem dX0_sumOverLines_3 : decode cX0_sumOverLines 3 = .ok (.istore_n 3, 1) := by decide +kernel
theorem dX0_sumOverLines_4 : decode cX0_sumOverLines 4 = .ok (.iload_n 3, 1) := by decide +kernel
theorem dX0_sumOverLines_5 : decode cX0_sumOverLines 5 = .ok (.aload_n 0, 1) := by decide +kernel
theorem dX0_sumOverLines_6 : decode cX0_sumOverLines 6 = .ok (.getfield 13, 3) := by decide +kernel
theorem dX0_sumOverLines_9 : decode cX0_sumOverLines 9 = .ok (.if_icmp .ge 18, 3) := by decide +kernel
theorem dX0_sumOverLines_12 : decode cX0_sumOverLines 12 = .ok (.iload_n 2, 1) := by decide +kernel
theorem dX0_sumOverLines_13 : decode cX0_sumOverLines 13 = .ok (.aload_n 0, 1) := by decide +kernel
theorem dX0_sumOverLines_14 : decode cX0_sumOverLines 14 = .ok (.iload_n 3, 1) := by decide +kernel
theorem dX0_sumOverLines_15 : decode cX0_sumOverLines 15 = .ok (.iload_n 1, 1) := by decide +kernel
theorem dX0_sumOverLines_16 : decode cX0_sumOverLines 16 = .ok (.invokevirtual 94, 3) := by decide +kernel
theorem dX0_sumOverLines_19 : decode cX0_sumOverLines 19 = .ok (.iadd, 1) := by decide +kernel
theorem dX0_sumOverLines_20 : decode cX0_sumOverLines 20 = .ok (.istore_n 2, 1) := by decide +kernel
theorem dX0_sumOverLines_21 : decode cX0_sumOverLines 21 = .ok (.iinc 3 1, 3) := by decide +kernel
theorem dX0_sumOverLines_24 : decode cX0_sumOverLines 24 = .ok (.goto (-20), 3) := by decide +kernel
theorem dX0_sumOverLines_27 : decode cX0_sumOverLines 27 = .ok (.iload_n 2, 1) := by decide +kernel
theorem dX0_sumOverLines_28 : decode cX0_sumOverLines 28 = .ok (.ireturn, 1) := by decide +kernel
set_option maxRecDepth 20000 in
theorem ggX0_pairsOfSameWorth_X0_worthOfPlaces : GoodIn wsX0_pairsOfSameWorth wsX0_worthOfPlaces := goodIn_r _ [9, 10, 11, 8, 12, 13, 14, 15, 16, 17, 18, 19, 20, 25, 26, 27, 28, 29, 30, 31, 32] (by decide +kernel) (by decide +kernel)
set_option maxRecDepth 20000 in
theorem gX0_pairsOfSameWorth_X0_worthOfPlaces : GoodIn wsX0_pairsOfSameWorth (wsV RX0 55 RX0 yX0_worthOfPlaces wsX0_worthOfPlaces) := goodIn_app (goodIn_of _ (by decide +kernel)) ggX0_pairsOfSameWorth_X0_worthOfPlaces
set_option maxRecDepth 20000 in
theorem ggX0_pairsOfSameWorth_X0_timesAmongWorths : GoodIn wsX0_pairsOfSameWorth wsX0_timesAmongWorths := goodIn_r _ [24, 4, 25, 26, 27, 28, 29, 30, 31, 32] (by decide +kernel) (by decide +kernel)
set_option maxRecDepth 20000 in
theorem gX0_pairsOfSameWorth_X0_timesAmongWorths : GoodIn wsX0_pairsOfSameWorth (wsV RX0 156 RX0 yX0_timesAmongWorths wsX0_timesAmongWorths) := goodIn_app (goodIn_of _ (by decide +kernel)) ggX0_pairsOfSameWorth_X0_timesAmongWorths
theorem dX0_pairsOfSameWorth_0 : decode cX0_pairsOfSameWorth 0 = .ok (.iconst 0, 1) := by decide +kernel
theorem dX0_pairsOfSameWorth_1 : decode cX0_pairsOfSameWorth 1 = .ok (.istore_n 1, 1) := by decide +kernel
theorem dX0_pairsOfSameWorth_2 : decode cX0_pairsOfSameWorth 2 = .ok (.iconst 0, 1) := by decide +kernel
theorem dX0_pairsOfSameWorth_3 : decode cX0_pairsOfSameWorth 3 = .ok (.istore_n 2, 1) := by decide +kernel
theorem dX0_pairsOfSameWorth_4 : decode cX0_pairsOfSameWorth 4 = .ok (.iconst 0, 1) := by decide +kernel
theorem dX0_pairsOfSameWorth_5 : decode cX0_pairsOfSameWorth 5 = .ok (.istore_n 3, 1) := by decide +kernel
theorem dX0_pairsOfSameWorth_6 : decode cX0_pairsOfSameWorth 6 = .ok (.iload_n 3, 1) := by decide +kernel
theorem dX0_pairsOfSameWorth_7 : decode cX0_pairsOfSameWorth 7 = .ok (.aload_n 0, 1) := by decide +kernel
theorem dX0_pairsOfSameWorth_8 : decode cX0_pairsOfSameWorth 8 = .ok (.getfield 13, 3) := by decide +kernel
theorem dX0_pairsOfSameWorth_11 : decode cX0_pairsOfSameWorth 11 = .ok (.if_icmp .ge 67, 3) := by decide +kernel
theorem dX0_pairsOfSameWorth_14 : decode cX0_pairsOfSameWorth 14 = .ok (.iconst 0, 1) := by decide +kernel
theorem dX0_pairsOfSameWorth_15 : decode cX0_pairsOfSameWorth 15 = .ok (.istore 4, 2) := by decide +kernel
theorem dX0_pairsOfSameWorth_17 : decode cX0_pairsOfSameWorth 17 = .ok (.iload 4, 2) := by decide +kernel
theorem dX0_pairsOfSameWorth_19 : decode cX0_pairsOfSameWorth 19 = .ok (.aload_n 0, 1) := by decide +kernel
theorem dX0_pairsOfSameWorth_20 : decode cX0_pairsOfSameWorth 20 = .ok (.getfield 16, 3) := by decide +kernel
theorem dX0_pairsOfSameWorth_23 : decode cX0_pairsOfSameWorth 23 = .ok (.iload_n 3, 1) := by decide +kernel
theorem dX0_pairsOfSameWorth_24 : decode cX0_pairsOfSameWorth 24 = .ok (.iaload, 1) := by decide +kernel
theorem dX0_pairsOfSameWorth_25 : decode cX0_pairsOfSameWorth 25 = .ok (.if_icmp .ge 47, 3) := by decide +kernel
theorem dX0_pairsOfSameWorth_28 : decode cX0_pairsOfSameWorth 28 = .ok (.aload_n 0, 1) := by decide +kernel
theorem dX0_pairsOfSameWorth_29 : decode cX0_pairsOfSameWorth 29 = .ok (.aload_n 0, 1) := by decide +kernel
theorem dX0_pairsOfSameWorth_30 : decode cX0_pairsOfSameWorth 30 = .ok (.getfield 22, 3) := by decide +kernel
theorem dX0_pairsOfSameWorth_33 : decode cX0_pairsOfSameWorth 33 = .ok (.iload_n 3, 1) := by decide +kernel
theorem dX0_pairsOfSameWorth_34 : decode cX0_pairsOfSameWorth 34 = .ok (.aaload, 1) := by decide +kernel
theorem dX0_pairsOfSameWorth_35 : decode cX0_pairsOfSameWorth 35 = .ok (.iload 4, 2) := by decide +kernel
theorem dX0_pairsOfSameWorth_37 : decode cX0_pairsOfSameWorth 37 = .ok (.iaload, 1) := by decide +kernel
theorem dX0_pairsOfSameWorth_38 : decode cX0_pairsOfSameWorth 38 = .ok (.bipush 63, 2) := by decide +kernel
theorem dX0_pairsOfSameWorth_40 : decode cX0_pairsOfSameWorth 40 = .ok (.invokevirtual 55, 3) := by decide +kernel
theorem dX0_pairsOfSameWorth_43 : decode cX0_pairsOfSameWorth 43 = .ok (.istore 5, 2) := by decide +kernel
theorem dX0_pairsOfSameWorth_45 : decode cX0_pairsOfSameWorth 45 = .ok (.iload_n 2, 1) := by decide +kernel
theorem dX0_pairsOfSameWorth_46 : decode cX0_pairsOfSameWorth 46 = .ok (.aload_n 0, 1) := by decide +kernel
theorem dX0_pairsOfSameWorth_47 : decode cX0_pairsOfSameWorth 47 = .ok (.iload 5, 2) := by decide +kernel
theorem dX0_pairsOfSameWorth_49 : decode cX0_pairsOfSameWorth 49 = .ok (.iload_n 1, 1) := by decide +kernel
theorem dX0_pairsOfSameWorth_50 : decode cX0_pairsOfSameWorth 50 = .ok (.invokevirtual 156, 3) := by decide +kernel
theorem dX0_pairsOfSameWorth_53 : decode cX0_pairsOfSameWorth 53 = .ok (.iadd, 1) := by decide +kernel
theorem dX0_pairsOfSameWorth_54 : decode cX0_pairsOfSameWorth 54 = .ok (.istore_n 2, 1) := by decide +kernel
theorem dX0_pairsOfSameWorth_55 : decode cX0_pairsOfSameWorth 55 = .ok (.aload_n 0, 1) := by decide +kernel
theorem dX0_pairsOfSameWorth_56 : decode cX0_pairsOfSameWorth 56 = .ok (.getfield 28, 3) := by decide +kernel
theorem dX0_pairsOfSameWorth_59 : decode cX0_pairsOfSameWorth 59 = .ok (.iload_n 1, 1) := by decide +kernel
theorem dX0_pairsOfSameWorth_60 : decode cX0_pairsOfSameWorth 60 = .ok (.iload 5, 2) := by decide +kernel
theorem dX0_pairsOfSameWorth_62 : decode cX0_pairsOfSameWorth 62 = .ok (.iastore, 1) := by decide +kernel
theorem dX0_pairsOfSameWorth_63 : decode cX0_pairsOfSameWorth 63 = .ok (.iinc 1 1, 3) := by decide +kernel
theorem dX0_pairsOfSameWorth_66 : decode cX0_pairsOfSameWorth 66 = .ok (.iinc 4 1, 3) := by decide +kernel
theorem dX0_pairsOfSameWorth_69 : decode cX0_pairsOfSameWorth 69 = .ok (.goto (-52), 3) := by decide +kernel
theorem dX0_pairsOfSameWorth_72 : decode cX0_pairsOfSameWorth 72 = .ok (.iinc 3 1, 3) := by decide +kernel
theorem dX0_pairsOfSameWorth_75 : decode cX0_pairsOfSameWorth 75 = .ok (.goto (-69), 3) := by decide +kernel
theorem dX0_pairsOfSameWorth_78 : decode cX0_pairsOfSameWorth 78 = .ok (.iload_n 2, 1) := by decide +kernel
theorem dX0_pairsOfSameWorth_79 : decode cX0_pairsOfSameWorth 79 = .ok (.ireturn, 1) := by decide +kernel
theorem dX0_timesAmongWorths_0 : decode cX0_timesAmongWorths 0 = .ok (.iconst 0, 1) := by decide +kernel
theorem dX0_timesAmongWorths_1 : decode cX0_timesAmongWorths 1 = .ok (.istore_n 3, 1) := by decide +kernel
theorem dX0_timesAmongWorths_2 : decode cX0_timesAmongWorths 2 = .ok (.iconst 0, 1) := by decide +kernel
theorem dX0_timesAmongWorths_3 : decode cX0_timesAmongWorths 3 = .ok (.istore 4, 2) := by decide +kernel
theorem dX0_timesAmongWorths_5 : decode cX0_timesAmongWorths 5 = .ok (.iload 4, 2) := by decide +kernel
theorem dX0_timesAmongWorths_7 : decode cX0_timesAmongWorths 7 = .ok (.iload_n 2, 1) := by decide +kernel
theorem dX0_timesAmongWorths_8 : decode cX0_timesAmongWorths 8 = .ok (.if_icmp .ge 23, 3) := by decide +kernel
theorem dX0_timesAmongWorths_11 : decode cX0_timesAmongWorths 11 = .ok (.aload_n 0, 1) := by decide +kernel
theorem dX0_timesAmongWorths_12 : decode cX0_timesAmongWorths 12 = .ok (.getfield 28, 3) := by decide +kernel
theorem dX0_timesAmongWorths_15 : decode cX0_timesAmongWorths 15 = .ok (.iload 4, 2) := by decide +kernel
theorem dX0_timesAmongWorths_17 : decode cX0_timesAmongWorths 17 = .ok (.iaload, 1) := by decide +kernel
theorem dX0_timesAmongWorths_18 : decode cX0_timesAmongWorths 18 = .ok (.iload_n 1, 1) := by decide +kernel
theorem dX0_timesAmongWorths_19 : decode cX0_timesAmongWorths 19 = .ok (.if_icmp .ne 6, 3) := by decide +kernel
theorem dX0_timesAmongWorths_22 : decode cX0_timesAmongWorths 22 = .ok (.iinc 3 1, 3) := by decide +kernel
theorem dX0_timesAmongWorths_25 : decode cX0_timesAmongWorths 25 = .ok (.iinc 4 1, 3) := by decide +kernel
theorem dX0_timesAmongWorths_28 : decode cX0_timesAmongWorths 28 = .ok (.goto (-23), 3) := by decide +kernel
theorem dX0_timesAmongWorths_31 : decode cX0_timesAmongWorths 31 = .ok (.iload_n 3, 1) := by decide +kernel
theorem dX0_timesAmongWorths_32 : decode cX0_timesAmongWorths 32 = .ok (.ireturn, 1) := by decide +kernel
set_option maxRecDepth 20000 in
theorem ggX0_lastOfRun_X0_worthOfPlaces : GoodIn wsX0_lastOfRun wsX0_worthOfPlaces := goodIn_r _ [7, 8, 9, 6, 10, 11, 12, 13, 14, 15, 16, 17, 18, 19, 20, 21, 22, 23, 24, 25, 26] (by decide +kernel) (by decide +kernel)
set_option maxRecDepth 20000 in
theorem gX0_lastOfRun_X0_worthOfPlaces : GoodIn wsX0_lastOfRun (wsV RX0 55 RX0 yX0_worthOfPlaces wsX0_worthOfPlaces) := goodIn_app (goodIn_of _ (by decide +kernel)) ggX0_lastOfRun_X0_worthOfPlaces
theorem dX0_lastOfRun_0 : decode cX0_lastOfRun 0 = .ok (.iconst 0, 1) := by decide +kernel
theorem dX0_lastOfRun_1 : decode cX0_lastOfRun 1 = .ok (.istore 4, 2) := by decide +kernel
theorem dX0_lastOfRun_3 : decode cX0_lastOfRun 3 = .ok (.iload_n 2, 1) := by decide +kernel
theorem dX0_lastOfRun_4 : decode cX0_lastOfRun 4 = .ok (.istore 5, 2) := by decide +kernel
theorem dX0_lastOfRun_6 : decode cX0_lastOfRun 6 = .ok (.iload 5, 2) := by decide +kernel
theorem dX0_lastOfRun_8 : decode cX0_lastOfRun 8 = .ok (.aload_n 0, 1) := by decide +kernel
theorem dX0_lastOfRun_9 : decode cX0_lastOfRun 9 = .ok (.getfield 16, 3) := by decide +kernel
theorem dX0_lastOfRun_12 : decode cX0_lastOfRun 12 = .ok (.iload_n 1, 1) := by decide +kernel
theorem dX0_lastOfRun_13 : decode cX0_lastOfRun 13 = .ok (.iaload, 1) := by decide +kernel
theorem dX0_lastOfRun_14 : decode cX0_lastOfRun 14 = .ok (.if_icmp .ge 38, 3) := by decide +kernel
theorem dX0_lastOfRun_17 : decode cX0_lastOfRun 17 = .ok (.iload 4, 2) := by decide +kernel
theorem dX0_lastOfRun_19 : decode cX0_lastOfRun 19 = .ok (.aload_n 0, 1) := by decide +kernel
theorem dX0_lastOfRun_20 : decode cX0_lastOfRun 20 = .ok (.aload_n 0, 1) := by decide +kernel
theorem dX0_lastOfRun_21 : decode cX0_lastOfRun 21 = .ok (.getfield 22, 3) := by decide +kernel
theorem dX0_lastOfRun_24 : decode cX0_lastOfRun 24 = .ok (.iload_n 1, 1) := by decide +kernel
theorem dX0_lastOfRun_25 : decode cX0_lastOfRun 25 = .ok (.aaload, 1) := by decide +kernel
theorem dX0_lastOfRun_26 : decode cX0_lastOfRun 26 = .ok (.iload 5, 2) := by decide +kernel
theorem dX0_lastOfRun_28 : decode cX0_lastOfRun 28 = .ok (.iaload, 1) := by decide +kernel
theorem dX0_lastOfRun_29 : decode cX0_lastOfRun 29 = .ok (.bipush 63, 2) := by decide +kernel
theorem dX0_lastOfRun_31 : decode cX0_lastOfRun 31 = .ok (.invokevirtual 55, 3) := by decide +kernel
theorem dX0_lastOfRun_34 : decode cX0_lastOfRun 34 = .ok (.iadd, 1) := by decide +kernel
theorem dX0_lastOfRun_35 : decode cX0_lastOfRun 35 = .ok (.istore 4, 2) := by decide +kernel
theorem dX0_lastOfRun_37 : decode cX0_lastOfRun 37 = .ok (.iload 4, 2) := by decide +kernel
theorem dX0_lastOfRun_39 : decode cX0_lastOfRun 39 = .ok (.iload_n 3, 1) := by decide +kernel
theorem dX0_lastOfRun_40 : decode cX0_lastOfRun 40 = .ok (.if_icmp .ne 6, 3) := by decide +kernel
theorem dX0_lastOfRun_43 : decode cX0_lastOfRun 43 = .ok (.iload 5, 2) := by decide +kernel
theorem dX0_lastOfRun_45 : decode cX0_lastOfRun 45 = .ok (.ireturn, 1) := by decide +kernel
theorem dX0_lastOfRun_46 : decode cX0_lastOfRun 46 = .ok (.iinc 5 1, 3) := by decide +kernel
theorem dX0_lastOfRun_49 : decode cX0_lastOfRun 49 = .ok (.goto (-43), 3) := by decide +kernel
theorem dX0_lastOfRun_52 : decode cX0_lastOfRun 52 = .ok (.iconst (-1), 1) := by decide +kernel
theorem dX0_lastOfRun_53 : decode cX0_lastOfRun 53 = .ok (.ireturn, 1) := by decide +kernel
