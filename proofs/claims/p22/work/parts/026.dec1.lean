theorem dX1_init_0 : decode cX1_init 0 = .ok (.aload_n 0, 1) := by decide +kernel
theorem dX1_init_1 : decode cX1_init 1 = .ok (.invokespecial 1, 3) := by decide +kernel
theorem dX1_init_4 : decode cX1_init 4 = .ok (.aload_n 0, 1) := by decide +kernel
theorem dX1_init_5 : decode cX1_init 5 = .ok (.iconst 0, 1) := by decide +kernel
theorem dX1_init_6 : decode cX1_init 6 = .ok (.anewarray 7, 3) := by decide +kernel
theorem dX1_init_9 : decode cX1_init 9 = .ok (.putfield 9, 3) := by decide +kernel
theorem dX1_init_12 : decode cX1_init 12 = .ok (.aload_n 0, 1) := by decide +kernel
theorem dX1_init_13 : decode cX1_init 13 = .ok (.iconst 0, 1) := by decide +kernel
theorem dX1_init_14 : decode cX1_init 14 = .ok (.anewarray 15, 3) := by decide +kernel
theorem dX1_init_17 : decode cX1_init 17 = .ok (.putfield 17, 3) := by decide +kernel
theorem dX1_init_20 : decode cX1_init 20 = .ok (.return_, 1) := by decide +kernel
set_option maxRecDepth 20000 in
theorem ggX1_value_L_letters : GoodIn wsX1_value wsL_letters := goodIn_r _ [4, 5] (by decide +kernel) (by decide +kernel)
set_option maxRecDepth 20000 in
theorem gX1_value_L_letters_n21 : GoodIn wsX1_value (wsL_letters) := ggX1_value_L_letters
set_option maxRecDepth 20000 in
theorem ggX1_value_L_value : GoodIn wsX1_value wsL_value := goodIn_r _ [7] (by decide +kernel) (by decide +kernel)
set_option maxRecDepth 20000 in
theorem gX1_value_L_value_n31 : GoodIn wsX1_value (wsL_value) := ggX1_value_L_value
theorem dX1_value_0 : decode cX1_value 0 = .ok (.iconst 0, 1) := by decide +kernel
theorem dX1_value_1 : decode cX1_value 1 = .ok (.istore_n 2, 1) := by decide +kernel
theorem dX1_value_2 : decode cX1_value 2 = .ok (.iload_n 1, 1) := by decide +kernel
theorem dX1_value_3 : decode cX1_value 3 = .ok (.invokestatic 21, 3) := by decide +kernel
theorem dX1_value_6 : decode cX1_value 6 = .ok (.astore_n 3, 1) := by decide +kernel
theorem dX1_value_7 : decode cX1_value 7 = .ok (.aload_n 3, 1) := by decide +kernel
theorem dX1_value_8 : decode cX1_value 8 = .ok (.arraylength, 1) := by decide +kernel
theorem dX1_value_9 : decode cX1_value 9 = .ok (.istore 4, 2) := by decide +kernel
theorem dX1_value_11 : decode cX1_value 11 = .ok (.iconst 0, 1) := by decide +kernel
theorem dX1_value_12 : decode cX1_value 12 = .ok (.istore 5, 2) := by decide +kernel
theorem dX1_value_14 : decode cX1_value 14 = .ok (.iload 5, 2) := by decide +kernel
theorem dX1_value_16 : decode cX1_value 16 = .ok (.iload 4, 2) := by decide +kernel
theorem dX1_value_18 : decode cX1_value 18 = .ok (.if_icmp .ge 27, 3) := by decide +kernel
theorem dX1_value_21 : decode cX1_value 21 = .ok (.aload_n 3, 1) := by decide +kernel
theorem dX1_value_22 : decode cX1_value 22 = .ok (.iload 5, 2) := by decide +kernel
theorem dX1_value_24 : decode cX1_value 24 = .ok (.iaload, 1) := by decide +kernel
theorem dX1_value_25 : decode cX1_value 25 = .ok (.istore 6, 2) := by decide +kernel
theorem dX1_value_27 : decode cX1_value 27 = .ok (.iload_n 2, 1) := by decide +kernel
theorem dX1_value_28 : decode cX1_value 28 = .ok (.aload_n 0, 1) := by decide +kernel
theorem dX1_value_29 : decode cX1_value 29 = .ok (.getfield 27, 3) := by decide +kernel
theorem dX1_value_32 : decode cX1_value 32 = .ok (.iload 6, 2) := by decide +kernel
theorem dX1_value_34 : decode cX1_value 34 = .ok (.invokestatic 31, 3) := by decide +kernel
theorem dX1_value_37 : decode cX1_value 37 = .ok (.iadd, 1) := by decide +kernel
theorem dX1_value_38 : decode cX1_value 38 = .ok (.istore_n 2, 1) := by decide +kernel
theorem dX1_value_39 : decode cX1_value 39 = .ok (.iinc 5 1, 3) := by decide +kernel
theorem dX1_value_42 : decode cX1_value 42 = .ok (.goto (-28), 3) := by decide +kernel
theorem dX1_value_45 : decode cX1_value 45 = .ok (.iload_n 2, 1) := by decide +kernel
theorem dX1_value_46 : decode cX1_value 46 = .ok (.ireturn, 1) := by decide +kernel
theorem dX1_write_0 : decode cX1_write 0 = .ok (.aload_n 0, 1) := by decide +kernel
theorem dX1_write_1 : decode cX1_write 1 = .ok (.getfield 9, 3) := by decide +kernel
theorem dX1_write_4 : decode cX1_write 4 = .ok (.arraylength, 1) := by decide +kernel
theorem dX1_write_5 : decode cX1_write 5 = .ok (.istore_n 1, 1) := by decide +kernel
theorem dX1_write_6 : decode cX1_write 6 = .ok (.iload_n 1, 1) := by decide +kernel
theorem dX1_write_7 : decode cX1_write 7 = .ok (.iconst 1, 1) := by decide +kernel
theorem dX1_write_8 : decode cX1_write 8 = .ok (.iadd, 1) := by decide +kernel
theorem dX1_write_9 : decode cX1_write 9 = .ok (.anewarray 7, 3) := by decide +kernel
theorem dX1_write_12 : decode cX1_write 12 = .ok (.astore_n 2, 1) := by decide +kernel
theorem dX1_write_13 : decode cX1_write 13 = .ok (.iload_n 1, 1) := by decide +kernel
theorem dX1_write_14 : decode cX1_write 14 = .ok (.iconst 1, 1) := by decide +kernel
theorem dX1_write_15 : decode cX1_write 15 = .ok (.iadd, 1) := by decide +kernel
theorem dX1_write_16 : decode cX1_write 16 = .ok (.anewarray 15, 3) := by decide +kernel
theorem dX1_write_19 : decode cX1_write 19 = .ok (.astore_n 3, 1) := by decide +kernel
theorem dX1_write_20 : decode cX1_write 20 = .ok (.iconst 0, 1) := by decide +kernel
theorem dX1_write_21 : decode cX1_write 21 = .ok (.istore 4, 2) := by decide +kernel
theorem dX1_write_23 : decode cX1_write 23 = .ok (.iload 4, 2) := by decide +kernel
theorem dX1_write_25 : decode cX1_write 25 = .ok (.iload_n 1, 1) := by decide +kernel
theorem dX1_write_26 : decode cX1_write 26 = .ok (.if_icmp .ge 31, 3) := by decide +kernel
theorem dX1_write_29 : decode cX1_write 29 = .ok (.aload_n 2, 1) := by decide +kernel
theorem dX1_write_30 : decode cX1_write 30 = .ok (.iload 4, 2) := by decide +kernel
theorem dX1_write_32 : decode cX1_write 32 = .ok (.aload_n 0, 1) := by decide +kernel
theorem dX1_write_33 : decode cX1_write 33 = .ok (.getfield 9, 3) := by decide +kernel
theorem dX1_write_36 : decode cX1_write 36 = .ok (.iload 4, 2) := by decide +kernel
theorem dX1_write_38 : decode cX1_write 38 = .ok (.aaload, 1) := by decide +kernel
theorem dX1_write_39 : decode cX1_write 39 = .ok (.aastore, 1) := by decide +kernel
theorem dX1_write_40 : decode cX1_write 40 = .ok (.aload_n 3, 1) := by decide +kernel
theorem dX1_write_41 : decode cX1_write 41 = .ok (.iload 4, 2) := by decide +kernel
theorem dX1_write_43 : decode cX1_write 43 = .ok (.aload_n 0, 1) := by decide +kernel
theorem dX1_write_44 : decode cX1_write 44 = .ok (.getfield 17, 3) := by decide +kernel
theorem dX1_write_47 : decode cX1_write 47 = .ok (.iload 4, 2) := by decide +kernel
theorem dX1_write_49 : decode cX1_write 49 = .ok (.aaload, 1) := by decide +kernel
theorem dX1_write_50 : decode cX1_write 50 = .ok (.aastore, 1) := by decide +kernel
theorem dX1_write_51 : decode cX1_write 51 = .ok (.iinc 4 1, 3) := by decide +kernel
theorem dX1_write_54 : decode cX1_write 54 = .ok (.goto (-31), 3) := by decide +kernel
theorem dX1_write_57 : decode cX1_write 57 = .ok (.aload_n 2, 1) := by decide +kernel
theorem dX1_write_58 : decode cX1_write 58 = .ok (.iload_n 1, 1) := by decide +kernel
theorem dX1_write_59 : decode cX1_write 59 = .ok (.iconst 0, 1) := by decide +kernel
theorem dX1_write_60 : decode cX1_write 60 = .ok (.newarray .int, 2) := by decide +kernel
theorem dX1_write_62 : decode cX1_write 62 = .ok (.aastore, 1) := by decide +kernel
theorem dX1_write_63 : decode cX1_write 63 = .ok (.aload_n 3, 1) := by decide +kernel
theorem dX1_write_64 : decode cX1_write 64 = .ok (.iload_n 1, 1) := by decide +kernel
theorem dX1_write_65 : decode cX1_write 65 = .ok (.iconst 0, 1) := by decide +kernel
theorem dX1_write_66 : decode cX1_write 66 = .ok (.anewarray 35, 3) := by decide +kernel
theorem dX1_write_69 : decode cX1_write 69 = .ok (.aastore, 1) := by decide +kernel
theorem dX1_write_70 : decode cX1_write 70 = .ok (.aload_n 0, 1) := by decide +kernel
theorem dX1_write_71 : decode cX1_write 71 = .ok (.aload_n 2, 1) := by decide +kernel
theorem dX1_write_72 : decode cX1_write 72 = .ok (.putfield 9, 3) := by decide +kernel
theorem dX1_write_75 : decode cX1_write 75 = .ok (.aload_n 0, 1) := by decide +kernel
theorem dX1_write_76 : decode cX1_write 76 = .ok (.aload_n 3, 1) := by decide +kernel
theorem dX1_write_77 : decode cX1_write 77 = .ok (.putfield 17, 3) := by decide +kernel
theorem dX1_write_80 : decode cX1_write 80 = .ok (.return_, 1) := by decide +kernel
set_option maxRecDepth 20000 in
theorem ggX1_add_L_letters : GoodIn wsX1_add wsL_letters := goodIn_r _ [8, 2] (by decide +kernel) (by decide +kernel)
set_option maxRecDepth 20000 in
theorem gX1_add_L_letters_n21 : GoodIn wsX1_add (wsL_letters) := ggX1_add_L_letters
theorem dX1_add_0 : decode cX1_add 0 = .ok (.aload_n 0, 1) := by decide +kernel
theorem dX1_add_1 : decode cX1_add 1 = .ok (.getfield 9, 3) := by decide +kernel
theorem dX1_add_4 : decode cX1_add 4 = .ok (.iload_n 1, 1) := by decide +kernel
theorem dX1_add_5 : decode cX1_add 5 = .ok (.aaload, 1) := by decide +kernel
theorem dX1_add_6 : decode cX1_add 6 = .ok (.arraylength, 1) := by decide +kernel
theorem dX1_add_7 : decode cX1_add 7 = .ok (.istore_n 3, 1) := by decide +kernel
theorem dX1_add_8 : decode cX1_add 8 = .ok (.iload_n 3, 1) := by decide +kernel
theorem dX1_add_9 : decode cX1_add 9 = .ok (.iconst 1, 1) := by decide +kernel
theorem dX1_add_10 : decode cX1_add 10 = .ok (.iadd, 1) := by decide +kernel
theorem dX1_add_11 : decode cX1_add 11 = .ok (.newarray .int, 2) := by decide +kernel
theorem dX1_add_13 : decode cX1_add 13 = .ok (.astore 4, 2) := by decide +kernel
theorem dX1_add_15 : decode cX1_add 15 = .ok (.iload_n 3, 1) := by decide +kernel
theorem dX1_add_16 : decode cX1_add 16 = .ok (.iconst 1, 1) := by decide +kernel
theorem dX1_add_17 : decode cX1_add 17 = .ok (.iadd, 1) := by decide +kernel
theorem dX1_add_18 : decode cX1_add 18 = .ok (.anewarray 35, 3) := by decide +kernel
theorem dX1_add_21 : decode cX1_add 21 = .ok (.astore 5, 2) := by decide +kernel
theorem dX1_add_23 : decode cX1_add 23 = .ok (.iconst 0, 1) := by decide +kernel
theorem dX1_add_24 : decode cX1_add 24 = .ok (.istore 6, 2) := by decide +kernel
theorem dX1_add_26 : decode cX1_add 26 = .ok (.iload 6, 2) := by decide +kernel
theorem dX1_add_28 : decode cX1_add 28 = .ok (.iload_n 3, 1) := by decide +kernel
theorem dX1_add_29 : decode cX1_add 29 = .ok (.if_icmp .ge 37, 3) := by decide +kernel
theorem dX1_add_32 : decode cX1_add 32 = .ok (.aload 4, 2) := by decide +kernel
theorem dX1_add_34 : decode cX1_add 34 = .ok (.iload 6, 2) := by decide +kernel
theorem dX1_add_36 : decode cX1_add 36 = .ok (.aload_n 0, 1) := by decide +kernel
theorem dX1_add_37 : decode cX1_add 37 = .ok (.getfield 9, 3) := by decide +kernel
theorem dX1_add_40 : decode cX1_add 40 = .ok (.iload_n 1, 1) := by decide +kernel
theorem dX1_add_41 : decode cX1_add 41 = .ok (.aaload, 1) := by decide +kernel
theorem dX1_add_42 : decode cX1_add 42 = .ok (.iload 6, 2) := by decide +kernel
theorem dX1_add_44 : decode cX1_add 44 = .ok (.iaload, 1) := by decide +kernel
theorem dX1_add_45 : decode cX1_add 45 = .ok (.iastore, 1) := by decide +kernel
theorem dX1_add_46 : decode cX1_add 46 = .ok (.aload 5, 2) := by decide +kernel
theorem dX1_add_48 : decode cX1_add 48 = .ok (.iload 6, 2) := by decide +kernel
theorem dX1_add_50 : decode cX1_add 50 = .ok (.aload_n 0, 1) := by decide +kernel
theorem dX1_add_51 : decode cX1_add 51 = .ok (.getfield 17, 3) := by decide +kernel
theorem dX1_add_54 : decode cX1_add 54 = .ok (.iload_n 1, 1) := by decide +kernel
theorem dX1_add_55 : decode cX1_add 55 = .ok (.aaload, 1) := by decide +kernel
theorem dX1_add_56 : decode cX1_add 56 = .ok (.iload 6, 2) := by decide +kernel
theorem dX1_add_58 : decode cX1_add 58 = .ok (.aaload, 1) := by decide +kernel
theorem dX1_add_59 : decode cX1_add 59 = .ok (.aastore, 1) := by decide +kernel
theorem dX1_add_60 : decode cX1_add 60 = .ok (.iinc 6 1, 3) := by decide +kernel
theorem dX1_add_63 : decode cX1_add 63 = .ok (.goto (-37), 3) := by decide +kernel
theorem dX1_add_66 : decode cX1_add 66 = .ok (.aload 4, 2) := by decide +kernel
theorem dX1_add_68 : decode cX1_add 68 = .ok (.iload_n 3, 1) := by decide +kernel
theorem dX1_add_69 : decode cX1_add 69 = .ok (.iload_n 2, 1) := by decide +kernel
theorem dX1_add_70 : decode cX1_add 70 = .ok (.iastore, 1) := by decide +kernel
theorem dX1_add_71 : decode cX1_add 71 = .ok (.aload 5, 2) := by decide +kernel
theorem dX1_add_73 : decode cX1_add 73 = .ok (.iload_n 3, 1) := by decide +kernel
theorem dX1_add_74 : decode cX1_add 74 = .ok (.iload_n 2, 1) := by decide +kernel
theorem dX1_add_75 : decode cX1_add 75 = .ok (.invokestatic 21, 3) := by decide +kernel
theorem dX1_add_78 : decode cX1_add 78 = .ok (.arraylength, 1) := by decide +kernel
theorem dX1_add_79 : decode cX1_add 79 = .ok (.newarray .boolean, 2) := by decide +kernel
theorem dX1_add_81 : decode cX1_add 81 = .ok (.aastore, 1) := by decide +kernel
theorem dX1_add_82 : decode cX1_add 82 = .ok (.aload_n 0, 1) := by decide +kernel
theorem dX1_add_83 : decode cX1_add 83 = .ok (.getfield 9, 3) := by decide +kernel
theorem dX1_add_86 : decode cX1_add 86 = .ok (.iload_n 1, 1) := by decide +kernel
theorem dX1_add_87 : decode cX1_add 87 = .ok (.aload 4, 2) := by decide +kernel
theorem dX1_add_89 : decode cX1_add 89 = .ok (.aastore, 1) := by decide +kernel
theorem dX1_add_90 : decode cX1_add 90 = .ok (.aload_n 0, 1) := by decide +kernel
theorem dX1_add_91 : decode cX1_add 91 = .ok (.getfield 17, 3) := by decide +kernel
theorem dX1_add_94 : decode cX1_add 94 = .ok (.iload_n 1, 1) := by decide +kernel
theorem dX1_add_95 : decode cX1_add 95 = .ok (.aload 5, 2) := by decide +kernel
theorem dX1_add_97 : decode cX1_add 97 = .ok (.aastore, 1) := by decide +kernel
theorem dX1_add_98 : decode cX1_add 98 = .ok (.return_, 1) := by decide +kernel
theorem dX1_cut_0 : decode cX1_cut 0 = .ok (.aload_n 0, 1) := by decide +kernel
theorem dX1_cut_1 : decode cX1_cut 1 = .ok (.getfield 9, 3) := by decide +kernel
theorem dX1_cut_4 : decode cX1_cut 4 = .ok (.iload_n 1, 1) := by decide +kernel
theorem dX1_cut_5 : decode cX1_cut 5 = .ok (.aaload, 1) := by decide +kernel
theorem dX1_cut_6 : decode cX1_cut 6 = .ok (.arraylength, 1) := by decide +kernel
theorem dX1_cut_7 : decode cX1_cut 7 = .ok (.iconst 1, 1) := by decide +kernel
theorem dX1_cut_8 : decode cX1_cut 8 = .ok (.isub, 1) := by decide +kernel
theorem dX1_cut_9 : decode cX1_cut 9 = .ok (.istore_n 2, 1) := by decide +kernel
theorem dX1_cut_10 : decode cX1_cut 10 = .ok (.aload_n 0, 1) := by decide +kernel
theorem dX1_cut_11 : decode cX1_cut 11 = .ok (.getfield 9, 3) := by decide +kernel
theorem dX1_cut_14 : decode cX1_cut 14 = .ok (.iload_n 1, 1) := by decide +kernel
theorem dX1_cut_15 : decode cX1_cut 15 = .ok (.aaload, 1) := by decide +kernel
theorem dX1_cut_16 : decode cX1_cut 16 = .ok (.iload_n 2, 1) := by decide +kernel
theorem dX1_cut_17 : decode cX1_cut 17 = .ok (.iaload, 1) := by decide +kernel
theorem dX1_cut_18 : decode cX1_cut 18 = .ok (.istore_n 3, 1) := by decide +kernel
theorem dX1_cut_19 : decode cX1_cut 19 = .ok (.iload_n 2, 1) := by decide +kernel
theorem dX1_cut_20 : decode cX1_cut 20 = .ok (.newarray .int, 2) := by decide +kernel
theorem dX1_cut_22 : decode cX1_cut 22 = .ok (.astore 4, 2) := by decide +kernel
theorem dX1_cut_24 : decode cX1_cut 24 = .ok (.iload_n 2, 1) := by decide +kernel
theorem dX1_cut_25 : decode cX1_cut 25 = .ok (.anewarray 35, 3) := by decide +kernel
theorem dX1_cut_28 : decode cX1_cut 28 = .ok (.astore 5, 2) := by decide +kernel
theorem dX1_cut_30 : decode cX1_cut 30 = .ok (.iconst 0, 1) := by decide +kernel
theorem dX1_cut_31 : decode cX1_cut 31 = .ok (.istore 6, 2) := by decide +kernel
theorem dX1_cut_33 : decode cX1_cut 33 = .ok (.iload 6, 2) := by decide +kernel
theorem dX1_cut_35 : decode cX1_cut 35 = .ok (.iload_n 2, 1) := by decide +kernel
theorem dX1_cut_36 : decode cX1_cut 36 = .ok (.if_icmp .ge 37, 3) := by decide +kernel
theorem dX1_cut_39 : decode cX1_cut 39 = .ok (.aload 4, 2) := by decide +kernel
theorem dX1_cut_41 : decode cX1_cut 41 = .ok (.iload 6, 2) := by decide +kernel
theorem dX1_cut_43 : decode cX1_cut 43 = .ok (.aload_n 0, 1) := by decide +kernel
theorem dX1_cut_44 : decode cX1_cut 44 = .ok (.getfield 9, 3) := by decide +kernel
theorem dX1_cut_47 : decode cX1_cut 47 = .ok (.iload_n 1, 1) := by decide +kernel
theorem dX1_cut_48 : decode cX1_cut 48 = .ok (.aaload, 1) := by decide +kernel
theorem dX1_cut_49 : decode cX1_cut 49 = .ok (.iload 6, 2) := by decide +kernel
theorem dX1_cut_51 : decode cX1_cut 51 = .ok (.iaload, 1) := by decide +kernel
theorem dX1_cut_52 : decode cX1_cut 52 = .ok (.iastore, 1) := by decide +kernel
theorem dX1_cut_53 : decode cX1_cut 53 = .ok (.aload 5, 2) := by decide +kernel
theorem dX1_cut_55 : decode cX1_cut 55 = .ok (.iload 6, 2) := by decide +kernel
theorem dX1_cut_57 : decode cX1_cut 57 = .ok (.aload_n 0, 1) := by decide +kernel
theorem dX1_cut_58 : decode cX1_cut 58 = .ok (.getfield 17, 3) := by decide +kernel
theorem dX1_cut_61 : decode cX1_cut 61 = .ok (.iload_n 1, 1) := by decide +kernel
theorem dX1_cut_62 : decode cX1_cut 62 = .ok (.aaload, 1) := by decide +kernel
theorem dX1_cut_63 : decode cX1_cut 63 = .ok (.iload 6, 2) := by decide +kernel
theorem dX1_cut_65 : decode cX1_cut 65 = .ok (.aaload, 1) := by decide +kernel
theorem dX1_cut_66 : decode cX1_cut 66 = .ok (.aastore, 1) := by decide +kernel
theorem dX1_cut_67 : decode cX1_cut 67 = .ok (.iinc 6 1, 3) := by decide +kernel
theorem dX1_cut_70 : decode cX1_cut 70 = .ok (.goto (-37), 3) := by decide +kernel
theorem dX1_cut_73 : decode cX1_cut 73 = .ok (.aload_n 0, 1) := by decide +kernel
theorem dX1_cut_74 : decode cX1_cut 74 = .ok (.getfield 9, 3) := by decide +kernel
theorem dX1_cut_77 : decode cX1_cut 77 = .ok (.iload_n 1, 1) := by decide +kernel
theorem dX1_cut_78 : decode cX1_cut 78 = .ok (.aload 4, 2) := by decide +kernel
theorem dX1_cut_80 : decode cX1_cut 80 = .ok (.aastore, 1) := by decide +kernel
theorem dX1_cut_81 : decode cX1_cut 81 = .ok (.aload_n 0, 1) := by decide +kernel
theorem dX1_cut_82 : decode cX1_cut 82 = .ok (.getfield 17, 3) := by decide +kernel
theorem dX1_cut_85 : decode cX1_cut 85 = .ok (.iload_n 1, 1) := by decide +kernel
theorem dX1_cut_86 : decode cX1_cut 86 = .ok (.aload 5, 2) := by decide +kernel
theorem dX1_cut_88 : decode cX1_cut 88 = .ok (.aastore, 1) := by decide +kernel
theorem dX1_cut_89 : decode cX1_cut 89 = .ok (.iload_n 3, 1) := by decide +kernel
theorem dX1_cut_90 : decode cX1_cut 90 = .ok (.ireturn, 1) := by decide +kernel
set_option maxRecDepth 20000 in
theorem ggX1_word_L_letters : GoodIn wsX1_word wsL_letters := goodIn_r _ [7, 2] (by decide +kernel) (by decide +kernel)
set_option maxRecDepth 20000 in
theorem gX1_word_L_letters_n21 : GoodIn wsX1_word (wsL_letters) := ggX1_word_L_letters
set_option maxRecDepth 20000 in
theorem ggX1_word_X1_value : GoodIn wsX1_word wsX1_value := goodIn_r _ [12, 4, 5, 6, 7, 2, 13, 14, 15, 16, 17] (by decide +kernel) (by decide +kernel)
set_option maxRecDepth 20000 in
theorem gX1_word_X1_value : GoodIn wsX1_word (wsV RX1 37 RX1 yX1_value wsX1_value) := goodIn_app (goodIn_of _ (by decide +kernel)) ggX1_word_X1_value
set_option maxRecDepth 20000 in
theorem ggX1_word_L_value : GoodIn wsX1_word wsL_value := goodIn_r _ [14] (by decide +kernel) (by decide +kernel)
set_option maxRecDepth 20000 in
theorem gX1_word_L_value_n31 : GoodIn wsX1_word (wsL_value) := ggX1_word_L_value
theorem dX1_word_0 : decode cX1_word 0 = .ok (.aload_n 0, 1) := by decide +kernel
theorem dX1_word_1 : decode cX1_word 1 = .ok (.getfield 9, 3) := by decide +kernel
theorem dX1_word_4 : decode cX1_word 4 = .ok (.iload_n 1, 1) := by decide +kernel
theorem dX1_word_5 : decode cX1_word 5 = .ok (.aaload, 1) := by decide +kernel
theorem dX1_word_6 : decode cX1_word 6 = .ok (.iload_n 2, 1) := by decide +kernel
theorem dX1_word_7 : decode cX1_word 7 = .ok (.iaload, 1) := by decide +kernel
theorem dX1_word_8 : decode cX1_word 8 = .ok (.invokestatic 21, 3) := by decide +kernel
theorem dX1_word_11 : decode cX1_word 11 = .ok (.astore_n 3, 1) := by decide +kernel
theorem dX1_word_12 : decode cX1_word 12 = .ok (.iconst 5, 1) := by decide +kernel
theorem dX1_word_13 : decode cX1_word 13 = .ok (.newarray .int, 2) := by decide +kernel
theorem dX1_word_15 : decode cX1_word 15 = .ok (.dup, 1) := by decide +kernel
theorem dX1_word_16 : decode cX1_word 16 = .ok (.iconst 0, 1) := by decide +kernel
theorem dX1_word_17 : decode cX1_word 17 = .ok (.aload_n 0, 1) := by decide +kernel
theorem dX1_word_18 : decode cX1_word 18 = .ok (.getfield 9, 3) := by decide +kernel
theorem dX1_word_21 : decode cX1_word 21 = .ok (.iload_n 1, 1) := by decide +kernel
theorem dX1_word_22 : decode cX1_word 22 = .ok (.aaload, 1) := by decide +kernel
theorem dX1_word_23 : decode cX1_word 23 = .ok (.iload_n 2, 1) := by decide +kernel
theorem dX1_word_24 : decode cX1_word 24 = .ok (.iaload, 1) := by decide +kernel
theorem dX1_word_25 : decode cX1_word 25 = .ok (.iastore, 1) := by decide +kernel
theorem dX1_word_26 : decode cX1_word 26 = .ok (.dup, 1) := by decide +kernel
theorem dX1_word_27 : decode cX1_word 27 = .ok (.iconst 1, 1) := by decide +kernel
theorem dX1_word_28 : decode cX1_word 28 = .ok (.aload_n 3, 1) := by decide +kernel
theorem dX1_word_29 : decode cX1_word 29 = .ok (.arraylength, 1) := by decide +kernel
theorem dX1_word_30 : decode cX1_word 30 = .ok (.iastore, 1) := by decide +kernel
theorem dX1_word_31 : decode cX1_word 31 = .ok (.dup, 1) := by decide +kernel
theorem dX1_word_32 : decode cX1_word 32 = .ok (.iconst 2, 1) := by decide +kernel
theorem dX1_word_33 : decode cX1_word 33 = .ok (.aload_n 0, 1) := by decide +kernel
theorem dX1_word_34 : decode cX1_word 34 = .ok (.aload_n 0, 1) := by decide +kernel
theorem dX1_word_35 : decode cX1_word 35 = .ok (.getfield 9, 3) := by decide +kernel
theorem dX1_word_38 : decode cX1_word 38 = .ok (.iload_n 1, 1) := by decide +kernel
theorem dX1_word_39 : decode cX1_word 39 = .ok (.aaload, 1) := by decide +kernel
theorem dX1_word_40 : decode cX1_word 40 = .ok (.iload_n 2, 1) := by decide +kernel
theorem dX1_word_41 : decode cX1_word 41 = .ok (.iaload, 1) := by decide +kernel
theorem dX1_word_42 : decode cX1_word 42 = .ok (.invokevirtual 37, 3) := by decide +kernel
theorem dX1_word_45 : decode cX1_word 45 = .ok (.iastore, 1) := by decide +kernel
theorem dX1_word_46 : decode cX1_word 46 = .ok (.dup, 1) := by decide +kernel
theorem dX1_word_47 : decode cX1_word 47 = .ok (.iconst 3, 1) := by decide +kernel
theorem dX1_word_48 : decode cX1_word 48 = .ok (.iconst 0, 1) := by decide +kernel
theorem dX1_word_49 : decode cX1_word 49 = .ok (.iastore, 1) := by decide +kernel
theorem dX1_word_50 : decode cX1_word 50 = .ok (.dup, 1) := by decide +kernel
theorem dX1_word_51 : decode cX1_word 51 = .ok (.iconst 4, 1) := by decide +kernel
theorem dX1_word_52 : decode cX1_word 52 = .ok (.iconst 0, 1) := by decide +kernel
theorem dX1_word_53 : decode cX1_word 53 = .ok (.iastore, 1) := by decide +kernel
theorem dX1_word_54 : decode cX1_word 54 = .ok (.astore 4, 2) := by decide +kernel
theorem dX1_word_56 : decode cX1_word 56 = .ok (.iconst 0, 1) := by decide +kernel
theorem dX1_word_57 : decode cX1_word 57 = .ok (.istore 5, 2) := by decide +kernel
theorem dX1_word_59 : decode cX1_word 59 = .ok (.iload 5, 2) := by decide +kernel
theorem dX1_word_61 : decode cX1_word 61 = .ok (.aload_n 3, 1) := by decide +kernel
theorem dX1_word_62 : decode cX1_word 62 = .ok (.arraylength, 1) := by decide +kernel
theorem dX1_word_63 : decode cX1_word 63 = .ok (.if_icmp .ge 52, 3) := by decide +kernel
theorem dX1_word_66 : decode cX1_word 66 = .ok (.aload_n 0, 1) := by decide +kernel
theorem dX1_word_67 : decode cX1_word 67 = .ok (.getfield 17, 3) := by decide +kernel
theorem dX1_word_70 : decode cX1_word 70 = .ok (.iload_n 1, 1) := by decide +kernel
theorem dX1_word_71 : decode cX1_word 71 = .ok (.aaload, 1) := by decide +kernel
theorem dX1_word_72 : decode cX1_word 72 = .ok (.iload_n 2, 1) := by decide +kernel
theorem dX1_word_73 : decode cX1_word 73 = .ok (.aaload, 1) := by decide +kernel
theorem dX1_word_74 : decode cX1_word 74 = .ok (.iload 5, 2) := by decide +kernel
theorem dX1_word_76 : decode cX1_word 76 = .ok (.baload, 1) := by decide +kernel
theorem dX1_word_77 : decode cX1_word 77 = .ok (.ifCond .ne 6, 3) := by decide +kernel
theorem dX1_word_80 : decode cX1_word 80 = .ok (.goto 29, 3) := by decide +kernel
theorem dX1_word_83 : decode cX1_word 83 = .ok (.aload 4, 2) := by decide +kernel
theorem dX1_word_85 : decode cX1_word 85 = .ok (.iconst 3, 1) := by decide +kernel
theorem dX1_word_86 : decode cX1_word 86 = .ok (.dup2, 1) := by decide +kernel
theorem dX1_word_87 : decode cX1_word 87 = .ok (.iaload, 1) := by decide +kernel
theorem dX1_word_88 : decode cX1_word 88 = .ok (.iconst 1, 1) := by decide +kernel
theorem dX1_word_89 : decode cX1_word 89 = .ok (.iadd, 1) := by decide +kernel
theorem dX1_word_90 : decode cX1_word 90 = .ok (.iastore, 1) := by decide +kernel
theorem dX1_word_91 : decode cX1_word 91 = .ok (.aload 4, 2) := by decide +kernel
theorem dX1_word_93 : decode cX1_word 93 = .ok (.iconst 4, 1) := by decide +kernel
theorem dX1_word_94 : decode cX1_word 94 = .ok (.dup2, 1) := by decide +kernel
theorem dX1_word_95 : decode cX1_word 95 = .ok (.iaload, 1) := by decide +kernel
theorem dX1_word_96 : decode cX1_word 96 = .ok (.aload_n 0, 1) := by decide +kernel
theorem dX1_word_97 : decode cX1_word 97 = .ok (.getfield 27, 3) := by decide +kernel
theorem dX1_word_100 : decode cX1_word 100 = .ok (.aload_n 3, 1) := by decide +kernel
theorem dX1_word_101 : decode cX1_word 101 = .ok (.iload 5, 2) := by decide +kernel
theorem dX1_word_103 : decode cX1_word 103 = .ok (.iaload, 1) := by decide +kernel
theorem dX1_word_104 : decode cX1_word 104 = .ok (.invokestatic 31, 3) := by decide +kernel
theorem dX1_word_107 : decode cX1_word 107 = .ok (.iadd, 1) := by decide +kernel
theorem dX1_word_108 : decode cX1_word 108 = .ok (.iastore, 1) := by decide +kernel
theorem dX1_word_109 : decode cX1_word 109 = .ok (.iinc 5 1, 3) := by decide +kernel
theorem dX1_word_112 : decode cX1_word 112 = .ok (.goto (-53), 3) := by decide +kernel
theorem dX1_word_115 : decode cX1_word 115 = .ok (.aload 4, 2) := by decide +kernel
theorem dX1_word_117 : decode cX1_word 117 = .ok (.areturn, 1) := by decide +kernel
set_option maxRecDepth 20000 in
theorem ggX1_line_X1_word : GoodIn wsX1_line wsX1_word := goodIn_r _ [7, 2, 1, 8, 9, 10, 11, 12, 13, 14, 15, 6, 16, 17, 18, 19, 20, 21] (by decide +kernel) (by decide +kernel)
set_option maxRecDepth 20000 in
theorem gX1_line_X1_word : GoodIn wsX1_line (wsV RX1 40 RX1 yX1_word wsX1_word) := goodIn_app (goodIn_of _ (by decide +kernel)) ggX1_line_X1_word
theorem dX1_line_0 : decode cX1_line 0 = .ok (.iconst 5, 1) := by decide +kernel
theorem dX1_line_1 : decode cX1_line 1 = .ok (.newarray .int, 2) := by decide +kernel
theorem dX1_line_3 : decode cX1_line 3 = .ok (.dup, 1) := by decide +kernel
theorem dX1_line_4 : decode cX1_line 4 = .ok (.iconst 0, 1) := by decide +kernel
theorem dX1_line_5 : decode cX1_line 5 = .ok (.aload_n 0, 1) := by decide +kernel
theorem dX1_line_6 : decode cX1_line 6 = .ok (.getfield 9, 3) := by decide +kernel
theorem dX1_line_9 : decode cX1_line 9 = .ok (.iload_n 1, 1) := by decide +kernel
theorem dX1_line_10 : decode cX1_line 10 = .ok (.aaload, 1) := by decide +kernel
theorem dX1_line_11 : decode cX1_line 11 = .ok (.arraylength, 1) := by decide +kernel
theorem dX1_line_12 : decode cX1_line 12 = .ok (.iastore, 1) := by decide +kernel
theorem dX1_line_13 : decode cX1_line 13 = .ok (.dup, 1) := by decide +kernel
theorem dX1_line_14 : decode cX1_line 14 = .ok (.iconst 1, 1) := by decide +kernel
theorem dX1_line_15 : decode cX1_line 15 = .ok (.iconst 0, 1) := by decide +kernel
theorem dX1_line_16 : decode cX1_line 16 = .ok (.iastore, 1) := by decide +kernel
theorem dX1_line_17 : decode cX1_line 17 = .ok (.dup, 1) := by decide +kernel
theorem dX1_line_18 : decode cX1_line 18 = .ok (.iconst 2, 1) := by decide +kernel
theorem dX1_line_19 : decode cX1_line 19 = .ok (.iconst 0, 1) := by decide +kernel
theorem dX1_line_20 : decode cX1_line 20 = .ok (.iastore, 1) := by decide +kernel
theorem dX1_line_21 : decode cX1_line 21 = .ok (.dup, 1) := by decide +kernel
theorem dX1_line_22 : decode cX1_line 22 = .ok (.iconst 3, 1) := by decide +kernel
theorem dX1_line_23 : decode cX1_line 23 = .ok (.iconst 0, 1) := by decide +kernel
theorem dX1_line_24 : decode cX1_line 24 = .ok (.iastore, 1) := by decide +kernel
theorem dX1_line_25 : decode cX1_line 25 = .ok (.dup, 1) := by decide +kernel
theorem dX1_line_26 : decode cX1_line 26 = .ok (.iconst 4, 1) := by decide +kernel
theorem dX1_line_27 : decode cX1_line 27 = .ok (.iconst 0, 1) := by decide +kernel
theorem dX1_line_28 : decode cX1_line 28 = .ok (.iastore, 1) := by decide +kernel
theorem dX1_line_29 : decode cX1_line 29 = .ok (.astore_n 2, 1) := by decide +kernel
theorem dX1_line_30 : decode cX1_line 30 = .ok (.iconst 0, 1) := by decide +kernel
theorem dX1_line_31 : decode cX1_line 31 = .ok (.istore_n 3, 1) := by decide +kernel
theorem dX1_line_32 : decode cX1_line 32 = .ok (.iload_n 3, 1) := by decide +kernel
theorem dX1_line_33 : decode cX1_line 33 = .ok (.aload_n 0, 1) := by decide +kernel
theorem dX1_line_34 : decode cX1_line 34 = .ok (.getfield 9, 3) := by decide +kernel
theorem dX1_line_37 : decode cX1_line 37 = .ok (.iload_n 1, 1) := by decide +kernel
theorem dX1_line_38 : decode cX1_line 38 = .ok (.aaload, 1) := by decide +kernel
theorem dX1_line_39 : decode cX1_line 39 = .ok (.arraylength, 1) := by decide +kernel
theorem dX1_line_40 : decode cX1_line 40 = .ok (.if_icmp .ge 44, 3) := by decide +kernel
theorem dX1_line_43 : decode cX1_line 43 = .ok (.aload_n 0, 1) := by decide +kernel
theorem dX1_line_44 : decode cX1_line 44 = .ok (.iload_n 1, 1) := by decide +kernel
theorem dX1_line_45 : decode cX1_line 45 = .ok (.iload_n 3, 1) := by decide +kernel
theorem dX1_line_46 : decode cX1_line 46 = .ok (.invokevirtual 40, 3) := by decide +kernel
theorem dX1_line_49 : decode cX1_line 49 = .ok (.astore 4, 2) := by decide +kernel
theorem dX1_line_51 : decode cX1_line 51 = .ok (.iconst 1, 1) := by decide +kernel
theorem dX1_line_52 : decode cX1_line 52 = .ok (.istore 5, 2) := by decide +kernel
theorem dX1_line_54 : decode cX1_line 54 = .ok (.iload 5, 2) := by decide +kernel
theorem dX1_line_56 : decode cX1_line 56 = .ok (.iconst 5, 1) := by decide +kernel
theorem dX1_line_57 : decode cX1_line 57 = .ok (.if_icmp .ge 21, 3) := by decide +kernel
theorem dX1_line_60 : decode cX1_line 60 = .ok (.aload_n 2, 1) := by decide +kernel
theorem dX1_line_61 : decode cX1_line 61 = .ok (.iload 5, 2) := by decide +kernel
theorem dX1_line_63 : decode cX1_line 63 = .ok (.dup2, 1) := by decide +kernel
theorem dX1_line_64 : decode cX1_line 64 = .ok (.iaload, 1) := by decide +kernel
theorem dX1_line_65 : decode cX1_line 65 = .ok (.aload 4, 2) := by decide +kernel
theorem dX1_line_67 : decode cX1_line 67 = .ok (.iload 5, 2) := by decide +kernel
theorem dX1_line_69 : decode cX1_line 69 = .ok (.iaload, 1) := by decide +kernel
theorem dX1_line_70 : decode cX1_line 70 = .ok (.iadd, 1) := by decide +kernel
theorem dX1_line_71 : decode cX1_line 71 = .ok (.iastore, 1) := by decide +kernel
theorem dX1_line_72 : decode cX1_line 72 = .ok (.iinc 5 1, 3) := by decide +kernel
theorem dX1_line_75 : decode cX1_line 75 = .ok (.goto (-21), 3) := by decide +kernel
theorem dX1_line_78 : decode cX1_line 78 = .ok (.iinc 3 1, 3) := by decide +kernel
theorem dX1_line_81 : decode cX1_line 81 = .ok (.goto (-49), 3) := by decide +kernel
theorem dX1_line_84 : decode cX1_line 84 = .ok (.aload_n 2, 1) := by decide +kernel
theorem dX1_line_85 : decode cX1_line 85 = .ok (.areturn, 1) := by decide +kernel
set_option maxRecDepth 20000 in
theorem ggX1_isSame_X1_line : GoodIn wsX1_isSame wsX1_line := goodIn_r _ [7, 1, 2, 8, 9, 10, 6, 11, 12, 13, 14, 15, 16, 17, 18, 19, 20, 21, 22, 100, 101, 102] (by decide +kernel) (by decide +kernel)
set_option maxRecDepth 20000 in
theorem gX1_isSame_X1_line : GoodIn wsX1_isSame (wsV RX1 44 RX1 yX1_line wsX1_line) := goodIn_app (goodIn_of _ (by decide +kernel)) ggX1_isSame_X1_line
set_option maxRecDepth 20000 in
theorem ggX1_isSame_X0_line : GoodIn wsX1_isSame wsX0_line := goodIn_ca (goodIn_r _ [27, 28, 29, 30, 26, 31, 32, 33, 34, 35, 36, 37, 38, 39, 40, 41, 42, 43, 44, 45, 46, 47, 48, 49, 50, 51, 52, 53, 54, 55, 56, 57, 58, 59, 60, 61, 62, 63, 64, 65, 66, 67, 68, 69, 70, 103, 104, 105, 106, 107, 108, 109, 110] (by decide +kernel) (by decide +kernel)) (goodIn_sub (fun _ h => List.mem_cons_of_mem _ (List.mem_append_right _ h)) (by decide +kernel))
set_option maxRecDepth 20000 in
theorem gX1_isSame_X0_line : GoodIn wsX1_isSame (wsV RX1 47 RX0 yX0_line wsX0_line) := goodIn_app (goodIn_of _ (by decide +kernel)) ggX1_isSame_X0_line
set_option maxRecDepth 20000 in
theorem ggX1_isSame_X1_word : GoodIn wsX1_isSame wsX1_word := goodIn_r _ [11, 2, 1, 12, 13, 14, 15, 16, 17, 18, 19, 6, 20, 21, 22, 100, 101, 102] (by decide +kernel) (by decide +kernel)
set_option maxRecDepth 20000 in
theorem gX1_isSame_X1_word : GoodIn wsX1_isSame (wsV RX1 40 RX1 yX1_word wsX1_word) := goodIn_app (goodIn_of _ (by decide +kernel)) ggX1_isSame_X1_word
set_option maxRecDepth 20000 in
theorem ggX1_isSame_X0_word : GoodIn wsX1_isSame wsX0_word := goodIn_ca (goodIn_r _ [74, 75, 76, 77, 26, 78, 32, 33, 42, 28, 29, 30, 31, 34, 35, 36, 37, 43, 44, 45, 46, 47, 48, 49, 50, 51, 52, 53, 54, 55, 56, 57, 58, 59, 60, 61, 62, 63, 64, 65, 66, 67, 68, 69, 70, 103, 104, 105, 106, 107, 108, 109, 110] (by decide +kernel) (by decide +kernel)) (goodIn_sub (fun _ h => List.mem_cons_of_mem _ (List.mem_append_right _ h)) (by decide +kernel))
set_option maxRecDepth 20000 in
theorem gX1_isSame_X0_word : GoodIn wsX1_isSame (wsV RX1 51 RX0 yX0_word wsX0_word) := goodIn_app (goodIn_of _ (by decide +kernel)) ggX1_isSame_X0_word
set_option maxRecDepth 20000 in
theorem ggX1_isSame_X0_told : GoodIn wsX1_isSame wsX0_told := goodIn_ca (goodIn_r _ [82, 34, 35, 36, 26, 37, 32, 33, 83, 84, 85, 86, 42, 47, 87, 52, 53, 54, 55, 49, 50, 51, 56, 57, 58, 59, 60, 61, 62, 63, 88, 89, 90, 91, 92, 93, 94, 95, 38, 39, 40, 41, 43, 44, 45, 46, 48, 64, 65, 66, 67, 68, 69, 70, 103, 104, 105, 106, 107, 108, 109, 110] (by decide +kernel) (by decide +kernel)) (goodIn_sub (fun _ h => List.mem_cons_of_mem _ (List.mem_append_right _ h)) (by decide +kernel))
set_option maxRecDepth 20000 in
theorem gX1_isSame_X0_told : GoodIn wsX1_isSame (wsV RX1 54 RX0 yX0_told wsX0_told) := goodIn_app (goodIn_of _ (by decide +kernel)) ggX1_isSame_X0_told
set_option maxRecDepth 20000 in
theorem ggX1_isSame_X0_mean : GoodIn wsX1_isSame wsX0_mean := goodIn_r _ [99, 92, 93, 94, 26, 95, 34, 38, 39, 40, 41, 42, 43, 44, 45, 46, 47, 48, 49, 50, 51, 52, 53, 54, 55, 56, 57, 58, 59, 60, 61, 62, 63, 64, 65, 66, 67, 68, 69, 70, 103, 104, 105, 106, 107, 108, 109, 110] (by decide +kernel) (by decide +kernel)
set_option maxRecDepth 20000 in
theorem gX1_isSame_X0_mean : GoodIn wsX1_isSame (wsV RX1 57 RX0 yX0_mean wsX0_mean) := goodIn_app (goodIn_of _ (by decide +kernel)) ggX1_isSame_X0_mean
theorem dX1_isSame_0 : decode cX1_isSame 0 = .ok (.bipush 7, 2) := by decide +kernel
theorem dX1_isSame_2 : decode cX1_isSame 2 = .ok (.newarray .int, 2) := by decide +kernel
theorem dX1_isSame_4 : decode cX1_isSame 4 = .ok (.dup, 1) := by decide +kernel
theorem dX1_isSame_5 : decode cX1_isSame 5 = .ok (.iconst 0, 1) := by decide +kernel
theorem dX1_isSame_6 : decode cX1_isSame 6 = .ok (.aload_n 0, 1) := by decide +kernel
theorem dX1_isSame_7 : decode cX1_isSame 7 = .ok (.getfield 9, 3) := by decide +kernel
theorem dX1_isSame_10 : decode cX1_isSame 10 = .ok (.arraylength, 1) := by decide +kernel
theorem dX1_isSame_11 : decode cX1_isSame 11 = .ok (.iastore, 1) := by decide +kernel
theorem dX1_isSame_12 : decode cX1_isSame 12 = .ok (.dup, 1) := by decide +kernel
theorem dX1_isSame_13 : decode cX1_isSame 13 = .ok (.iconst 1, 1) := by decide +kernel
theorem dX1_isSame_14 : decode cX1_isSame 14 = .ok (.iconst 0, 1) := by decide +kernel
theorem dX1_isSame_15 : decode cX1_isSame 15 = .ok (.iastore, 1) := by decide +kernel
theorem dX1_isSame_16 : decode cX1_isSame 16 = .ok (.dup, 1) := by decide +kernel
theorem dX1_isSame_17 : decode cX1_isSame 17 = .ok (.iconst 2, 1) := by decide +kernel
theorem dX1_isSame_18 : decode cX1_isSame 18 = .ok (.iconst 0, 1) := by decide +kernel
theorem dX1_isSame_19 : decode cX1_isSame 19 = .ok (.iastore, 1) := by decide +kernel
theorem dX1_isSame_20 : decode cX1_isSame 20 = .ok (.dup, 1) := by decide +kernel
theorem dX1_isSame_21 : decode cX1_isSame 21 = .ok (.iconst 3, 1) := by decide +kernel
theorem dX1_isSame_22 : decode cX1_isSame 22 = .ok (.iconst 0, 1) := by decide +kernel
theorem dX1_isSame_23 : decode cX1_isSame 23 = .ok (.iastore, 1) := by decide +kernel
theorem dX1_isSame_24 : decode cX1_isSame 24 = .ok (.dup, 1) := by decide +kernel
theorem dX1_isSame_25 : decode cX1_isSame 25 = .ok (.iconst 4, 1) := by decide +kernel
theorem dX1_isSame_26 : decode cX1_isSame 26 = .ok (.iconst 0, 1) := by decide +kernel
theorem dX1_isSame_27 : decode cX1_isSame 27 = .ok (.iastore, 1) := by decide +kernel
theorem dX1_isSame_28 : decode cX1_isSame 28 = .ok (.dup, 1) := by decide +kernel
theorem dX1_isSame_29 : decode cX1_isSame 29 = .ok (.iconst 5, 1) := by decide +kernel
theorem dX1_isSame_30 : decode cX1_isSame 30 = .ok (.iconst 0, 1) := by decide +kernel
theorem dX1_isSame_31 : decode cX1_isSame 31 = .ok (.iastore, 1) := by decide +kernel
theorem dX1_isSame_32 : decode cX1_isSame 32 = .ok (.dup, 1) := by decide +kernel
theorem dX1_isSame_33 : decode cX1_isSame 33 = .ok (.bipush 6, 2) := by decide +kernel
theorem dX1_isSame_35 : decode cX1_isSame 35 = .ok (.iconst 0, 1) := by decide +kernel
theorem dX1_isSame_36 : decode cX1_isSame 36 = .ok (.iastore, 1) := by decide +kernel
theorem dX1_isSame_37 : decode cX1_isSame 37 = .ok (.astore_n 2, 1) := by decide +kernel
theorem dX1_isSame_38 : decode cX1_isSame 38 = .ok (.bipush 120, 2) := by decide +kernel
theorem dX1_isSame_40 : decode cX1_isSame 40 = .ok (.newarray .int, 2) := by decide +kernel
theorem dX1_isSame_42 : decode cX1_isSame 42 = .ok (.astore_n 3, 1) := by decide +kernel
theorem dX1_isSame_43 : decode cX1_isSame 43 = .ok (.iconst 0, 1) := by decide +kernel
theorem dX1_isSame_44 : decode cX1_isSame 44 = .ok (.istore 4, 2) := by decide +kernel
theorem dX1_isSame_46 : decode cX1_isSame 46 = .ok (.iconst 0, 1) := by decide +kernel
theorem dX1_isSame_47 : decode cX1_isSame 47 = .ok (.istore 5, 2) := by decide +kernel
theorem dX1_isSame_49 : decode cX1_isSame 49 = .ok (.iload 5, 2) := by decide +kernel
theorem dX1_isSame_51 : decode cX1_isSame 51 = .ok (.aload_n 0, 1) := by decide +kernel
theorem dX1_isSame_52 : decode cX1_isSame 52 = .ok (.getfield 9, 3) := by decide +kernel
theorem dX1_isSame_55 : decode cX1_isSame 55 = .ok (.arraylength, 1) := by decide +kernel
theorem dX1_isSame_56 : decode cX1_isSame 56 = .ok (.if_icmp .ge 181, 3) := by decide +kernel
theorem dX1_isSame_59 : decode cX1_isSame 59 = .ok (.aload_n 0, 1) := by decide +kernel
theorem dX1_isSame_60 : decode cX1_isSame 60 = .ok (.iload 5, 2) := by decide +kernel
theorem dX1_isSame_62 : decode cX1_isSame 62 = .ok (.invokevirtual 44, 3) := by decide +kernel
theorem dX1_isSame_65 : decode cX1_isSame 65 = .ok (.astore 6, 2) := by decide +kernel
theorem dX1_isSame_67 : decode cX1_isSame 67 = .ok (.iconst 0, 1) := by decide +kernel
theorem dX1_isSame_68 : decode cX1_isSame 68 = .ok (.istore 7, 2) := by decide +kernel
theorem dX1_isSame_70 : decode cX1_isSame 70 = .ok (.iload 7, 2) := by decide +kernel
theorem dX1_isSame_72 : decode cX1_isSame 72 = .ok (.iconst 5, 1) := by decide +kernel
theorem dX1_isSame_73 : decode cX1_isSame 73 = .ok (.if_icmp .ge 41, 3) := by decide +kernel
theorem dX1_isSame_76 : decode cX1_isSame 76 = .ok (.aload_n 2, 1) := by decide +kernel
theorem dX1_isSame_77 : decode cX1_isSame 77 = .ok (.iconst 1, 1) := by decide +kernel
theorem dX1_isSame_78 : decode cX1_isSame 78 = .ok (.iload 7, 2) := by decide +kernel
theorem dX1_isSame_80 : decode cX1_isSame 80 = .ok (.iadd, 1) := by decide +kernel
theorem dX1_isSame_81 : decode cX1_isSame 81 = .ok (.dup2, 1) := by decide +kernel
theorem dX1_isSame_82 : decode cX1_isSame 82 = .ok (.iaload, 1) := by decide +kernel
theorem dX1_isSame_83 : decode cX1_isSame 83 = .ok (.aload 6, 2) := by decide +kernel
theorem dX1_isSame_85 : decode cX1_isSame 85 = .ok (.iload 7, 2) := by decide +kernel
theorem dX1_isSame_87 : decode cX1_isSame 87 = .ok (.iaload, 1) := by decide +kernel
theorem dX1_isSame_88 : decode cX1_isSame 88 = .ok (.iadd, 1) := by decide +kernel
theorem dX1_isSame_89 : decode cX1_isSame 89 = .ok (.iastore, 1) := by decide +kernel
theorem dX1_isSame_90 : decode cX1_isSame 90 = .ok (.aload_n 1, 1) := by decide +kernel
theorem dX1_isSame_91 : decode cX1_isSame 91 = .ok (.iload 5, 2) := by decide +kernel
theorem dX1_isSame_93 : decode cX1_isSame 93 = .ok (.iload 7, 2) := by decide +kernel
theorem dX1_isSame_95 : decode cX1_isSame 95 = .ok (.invokevirtual 47, 3) := by decide +kernel
theorem dX1_isSame_98 : decode cX1_isSame 98 = .ok (.aload 6, 2) := by decide +kernel
theorem dX1_isSame_100 : decode cX1_isSame 100 = .ok (.iload 7, 2) := by decide +kernel
theorem dX1_isSame_102 : decode cX1_isSame 102 = .ok (.iaload, 1) := by decide +kernel
theorem dX1_isSame_103 : decode cX1_isSame 103 = .ok (.if_icmp .eq 5, 3) := by decide +kernel
theorem dX1_isSame_106 : decode cX1_isSame 106 = .ok (.iconst 0, 1) := by decide +kernel
theorem dX1_isSame_107 : decode cX1_isSame 107 = .ok (.ireturn, 1) := by decide +kernel
theorem dX1_isSame_108 : decode cX1_isSame 108 = .ok (.iinc 7 1, 3) := by decide +kernel
theorem dX1_isSame_111 : decode cX1_isSame 111 = .ok (.goto (-41), 3) := by decide +kernel
theorem dX1_isSame_114 : decode cX1_isSame 114 = .ok (.iconst 0, 1) := by decide +kernel
theorem dX1_isSame_115 : decode cX1_isSame 115 = .ok (.istore 7, 2) := by decide +kernel
theorem dX1_isSame_117 : decode cX1_isSame 117 = .ok (.iload 7, 2) := by decide +kernel
theorem dX1_isSame_119 : decode cX1_isSame 119 = .ok (.aload_n 0, 1) := by decide +kernel
theorem dX1_isSame_120 : decode cX1_isSame 120 = .ok (.getfield 9, 3) := by decide +kernel
theorem dX1_isSame_123 : decode cX1_isSame 123 = .ok (.iload 5, 2) := by decide +kernel
theorem dX1_isSame_125 : decode cX1_isSame 125 = .ok (.aaload, 1) := by decide +kernel
theorem dX1_isSame_126 : decode cX1_isSame 126 = .ok (.arraylength, 1) := by decide +kernel
theorem dX1_isSame_127 : decode cX1_isSame 127 = .ok (.if_icmp .ge 104, 3) := by decide +kernel
theorem dX1_isSame_130 : decode cX1_isSame 130 = .ok (.aload_n 0, 1) := by decide +kernel
theorem dX1_isSame_131 : decode cX1_isSame 131 = .ok (.iload 5, 2) := by decide +kernel
theorem dX1_isSame_133 : decode cX1_isSame 133 = .ok (.iload 7, 2) := by decide +kernel
theorem dX1_isSame_135 : decode cX1_isSame 135 = .ok (.invokevirtual 40, 3) := by decide +kernel
theorem dX1_isSame_138 : decode cX1_isSame 138 = .ok (.astore 8, 2) := by decide +kernel
theorem dX1_isSame_140 : decode cX1_isSame 140 = .ok (.iconst 0, 1) := by decide +kernel
theorem dX1_isSame_141 : decode cX1_isSame 141 = .ok (.istore 9, 2) := by decide +kernel
theorem dX1_isSame_143 : decode cX1_isSame 143 = .ok (.iload 9, 2) := by decide +kernel
theorem dX1_isSame_145 : decode cX1_isSame 145 = .ok (.iconst 5, 1) := by decide +kernel
theorem dX1_isSame_146 : decode cX1_isSame 146 = .ok (.if_icmp .ge 29, 3) := by decide +kernel
theorem dX1_isSame_149 : decode cX1_isSame 149 = .ok (.aload_n 1, 1) := by decide +kernel
theorem dX1_isSame_150 : decode cX1_isSame 150 = .ok (.iload 5, 2) := by decide +kernel
theorem dX1_isSame_152 : decode cX1_isSame 152 = .ok (.iload 7, 2) := by decide +kernel
theorem dX1_isSame_154 : decode cX1_isSame 154 = .ok (.iload 9, 2) := by decide +kernel
theorem dX1_isSame_156 : decode cX1_isSame 156 = .ok (.invokevirtual 51, 3) := by decide +kernel
theorem dX1_isSame_159 : decode cX1_isSame 159 = .ok (.aload 8, 2) := by decide +kernel
theorem dX1_isSame_161 : decode cX1_isSame 161 = .ok (.iload 9, 2) := by decide +kernel
theorem dX1_isSame_163 : decode cX1_isSame 163 = .ok (.iaload, 1) := by decide +kernel
theorem dX1_isSame_164 : decode cX1_isSame 164 = .ok (.if_icmp .eq 5, 3) := by decide +kernel
theorem dX1_isSame_167 : decode cX1_isSame 167 = .ok (.iconst 0, 1) := by decide +kernel
theorem dX1_isSame_168 : decode cX1_isSame 168 = .ok (.ireturn, 1) := by decide +kernel
theorem dX1_isSame_169 : decode cX1_isSame 169 = .ok (.iinc 9 1, 3) := by decide +kernel
theorem dX1_isSame_172 : decode cX1_isSame 172 = .ok (.goto (-29), 3) := by decide +kernel
theorem dX1_isSame_175 : decode cX1_isSame 175 = .ok (.iconst 0, 1) := by decide +kernel
theorem dX1_isSame_176 : decode cX1_isSame 176 = .ok (.istore 9, 2) := by decide +kernel
theorem dX1_isSame_178 : decode cX1_isSame 178 = .ok (.iload 9, 2) := by decide +kernel
theorem dX1_isSame_180 : decode cX1_isSame 180 = .ok (.iload 4, 2) := by decide +kernel
theorem dX1_isSame_182 : decode cX1_isSame 182 = .ok (.if_icmp .ge 32, 3) := by decide +kernel
theorem dX1_isSame_185 : decode cX1_isSame 185 = .ok (.aload_n 2, 1) := by decide +kernel
theorem dX1_isSame_186 : decode cX1_isSame 186 = .ok (.bipush 6, 2) := by decide +kernel
theorem dX1_isSame_188 : decode cX1_isSame 188 = .ok (.dup2, 1) := by decide +kernel
theorem dX1_isSame_189 : decode cX1_isSame 189 = .ok (.iaload, 1) := by decide +kernel
theorem dX1_isSame_190 : decode cX1_isSame 190 = .ok (.aload_n 3, 1) := by decide +kernel
theorem dX1_isSame_191 : decode cX1_isSame 191 = .ok (.iload 9, 2) := by decide +kernel
theorem dX1_isSame_193 : decode cX1_isSame 193 = .ok (.iaload, 1) := by decide +kernel
theorem dX1_isSame_194 : decode cX1_isSame 194 = .ok (.aload 8, 2) := by decide +kernel
theorem dX1_isSame_196 : decode cX1_isSame 196 = .ok (.iconst 2, 1) := by decide +kernel
theorem dX1_isSame_197 : decode cX1_isSame 197 = .ok (.iaload, 1) := by decide +kernel
theorem dX1_isSame_198 : decode cX1_isSame 198 = .ok (.if_icmp .ne 7, 3) := by decide +kernel
theorem dX1_isSame_201 : decode cX1_isSame 201 = .ok (.iconst 1, 1) := by decide +kernel
theorem dX1_isSame_202 : decode cX1_isSame 202 = .ok (.goto 4, 3) := by decide +kernel
theorem dX1_isSame_205 : decode cX1_isSame 205 = .ok (.iconst 0, 1) := by decide +kernel
theorem dX1_isSame_206 : decode cX1_isSame 206 = .ok (.iadd, 1) := by decide +kernel
theorem dX1_isSame_207 : decode cX1_isSame 207 = .ok (.iastore, 1) := by decide +kernel
theorem dX1_isSame_208 : decode cX1_isSame 208 = .ok (.iinc 9 1, 3) := by decide +kernel
theorem dX1_isSame_211 : decode cX1_isSame 211 = .ok (.goto (-33), 3) := by decide +kernel
theorem dX1_isSame_214 : decode cX1_isSame 214 = .ok (.aload_n 3, 1) := by decide +kernel
theorem dX1_isSame_215 : decode cX1_isSame 215 = .ok (.iload 4, 2) := by decide +kernel
theorem dX1_isSame_217 : decode cX1_isSame 217 = .ok (.aload 8, 2) := by decide +kernel
theorem dX1_isSame_219 : decode cX1_isSame 219 = .ok (.iconst 2, 1) := by decide +kernel
theorem dX1_isSame_220 : decode cX1_isSame 220 = .ok (.iaload, 1) := by decide +kernel
theorem dX1_isSame_221 : decode cX1_isSame 221 = .ok (.iastore, 1) := by decide +kernel
theorem dX1_isSame_222 : decode cX1_isSame 222 = .ok (.iinc 4 1, 3) := by decide +kernel
theorem dX1_isSame_225 : decode cX1_isSame 225 = .ok (.iinc 7 1, 3) := by decide +kernel
theorem dX1_isSame_228 : decode cX1_isSame 228 = .ok (.goto (-111), 3) := by decide +kernel
theorem dX1_isSame_231 : decode cX1_isSame 231 = .ok (.iinc 5 1, 3) := by decide +kernel
theorem dX1_isSame_234 : decode cX1_isSame 234 = .ok (.goto (-185), 3) := by decide +kernel
theorem dX1_isSame_237 : decode cX1_isSame 237 = .ok (.iconst 0, 1) := by decide +kernel
theorem dX1_isSame_238 : decode cX1_isSame 238 = .ok (.istore 5, 2) := by decide +kernel
theorem dX1_isSame_240 : decode cX1_isSame 240 = .ok (.iload 5, 2) := by decide +kernel
theorem dX1_isSame_242 : decode cX1_isSame 242 = .ok (.bipush 7, 2) := by decide +kernel
theorem dX1_isSame_244 : decode cX1_isSame 244 = .ok (.if_icmp .ge 24, 3) := by decide +kernel
theorem dX1_isSame_247 : decode cX1_isSame 247 = .ok (.aload_n 1, 1) := by decide +kernel
theorem dX1_isSame_248 : decode cX1_isSame 248 = .ok (.iload 5, 2) := by decide +kernel
theorem dX1_isSame_250 : decode cX1_isSame 250 = .ok (.invokevirtual 54, 3) := by decide +kernel
theorem dX1_isSame_253 : decode cX1_isSame 253 = .ok (.aload_n 2, 1) := by decide +kernel
theorem dX1_isSame_254 : decode cX1_isSame 254 = .ok (.iload 5, 2) := by decide +kernel
theorem dX1_isSame_256 : decode cX1_isSame 256 = .ok (.iaload, 1) := by decide +kernel
theorem dX1_isSame_257 : decode cX1_isSame 257 = .ok (.if_icmp .eq 5, 3) := by decide +kernel
theorem dX1_isSame_260 : decode cX1_isSame 260 = .ok (.iconst 0, 1) := by decide +kernel
theorem dX1_isSame_261 : decode cX1_isSame 261 = .ok (.ireturn, 1) := by decide +kernel
theorem dX1_isSame_262 : decode cX1_isSame 262 = .ok (.iinc 5 1, 3) := by decide +kernel
theorem dX1_isSame_265 : decode cX1_isSame 265 = .ok (.goto (-25), 3) := by decide +kernel
theorem dX1_isSame_268 : decode cX1_isSame 268 = .ok (.aload_n 1, 1) := by decide +kernel
theorem dX1_isSame_269 : decode cX1_isSame 269 = .ok (.invokevirtual 57, 3) := by decide +kernel
theorem dX1_isSame_272 : decode cX1_isSame 272 = .ok (.aload_n 2, 1) := by decide +kernel
theorem dX1_isSame_273 : decode cX1_isSame 273 = .ok (.iconst 1, 1) := by decide +kernel
theorem dX1_isSame_274 : decode cX1_isSame 274 = .ok (.iaload, 1) := by decide +kernel
theorem dX1_isSame_275 : decode cX1_isSame 275 = .ok (.ifCond .ne 7, 3) := by decide +kernel
theorem dX1_isSame_278 : decode cX1_isSame 278 = .ok (.dconst 0, 1) := by decide +kernel
theorem dX1_isSame_279 : decode cX1_isSame 279 = .ok (.goto 12, 3) := by decide +kernel
theorem dX1_isSame_282 : decode cX1_isSame 282 = .ok (.aload_n 2, 1) := by decide +kernel
theorem dX1_isSame_283 : decode cX1_isSame 283 = .ok (.iconst 3, 1) := by decide +kernel
theorem dX1_isSame_284 : decode cX1_isSame 284 = .ok (.iaload, 1) := by decide +kernel
theorem dX1_isSame_285 : decode cX1_isSame 285 = .ok (.i2d, 1) := by decide +kernel
theorem dX1_isSame_286 : decode cX1_isSame 286 = .ok (.aload_n 2, 1) := by decide +kernel
theorem dX1_isSame_287 : decode cX1_isSame 287 = .ok (.iconst 1, 1) := by decide +kernel
theorem dX1_isSame_288 : decode cX1_isSame 288 = .ok (.iaload, 1) := by decide +kernel
theorem dX1_isSame_289 : decode cX1_isSame 289 = .ok (.i2d, 1) := by decide +kernel
theorem dX1_isSame_290 : decode cX1_isSame 290 = .ok (.ddiv, 1) := by decide +kernel
theorem dX1_isSame_291 : decode cX1_isSame 291 = .ok (.dcmp .l, 1) := by decide +kernel
theorem dX1_isSame_292 : decode cX1_isSame 292 = .ok (.ifCond .ne 7, 3) := by decide +kernel
theorem dX1_isSame_295 : decode cX1_isSame 295 = .ok (.iconst 1, 1) := by decide +kernel
theorem dX1_isSame_296 : decode cX1_isSame 296 = .ok (.goto 4, 3) := by decide +kernel
theorem dX1_isSame_299 : decode cX1_isSame 299 = .ok (.iconst 0, 1) := by decide +kernel
theorem dX1_isSame_300 : decode cX1_isSame 300 = .ok (.ireturn, 1) := by decide +kernel
