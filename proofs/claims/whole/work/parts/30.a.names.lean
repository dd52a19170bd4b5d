theorem dX5_bitsOf_100 : decode cX5_bitsOf 100 = .ok (.lreturn, 1) := by decide +kernel
theorem dX6_init_0 : decode cX6_init 0 = .ok (.aload_n 0, 1) := by decide +kernel
theorem dX6_init_1 : decode cX6_init 1 = .ok (.invokespecial 1, 3) := by decide +kernel
theorem dX6_init_4 : decode cX6_init 4 = .ok (.aload_n 0, 1) := by decide +kernel
theorem dX6_init_5 : decode cX6_init 5 = .ok (.sipush 163, 3) := by decide +kernel
theorem dX6_init_8 : decode cX6_init 8 = .ok (.newarray .int, 2) := by decide +kernel
theorem dX6_init_10 : decode cX6_init 10 = .ok (.putfield 7, 3) := by decide +kernel
theorem dX6_init_13 : decode cX6_init 13 = .ok (.aload_n 0, 1) := by decide +kernel
theorem dX6_init_14 : decode cX6_init 14 = .ok (.sipush 978, 3) := by decide +kernel
theorem dX6_init_17 : decode cX6_init 17 = .ok (.newarray .int, 2) := by decide +kernel
theorem dX6_init_19 : decode cX6_init 19 = .ok (.putfield 13, 3) := by decide +kernel
theorem dX6_init_22 : decode cX6_init 22 = .ok (.aload_n 0, 1) := by decide +kernel
theorem dX6_init_23 : decode cX6_init 23 = .ok (.bipush 60, 2) := by decide +kernel
theorem dX6_init_25 : decode cX6_init 25 = .ok (.newarray .int, 2) := by decide +kernel
theorem dX6_init_27 : decode cX6_init 27 = .ok (.putfield 16, 3) := by decide +kernel
theorem dX6_init_30 : decode cX6_init 30 = .ok (.aload_n 0, 1) := by decide +kernel
theorem dX6_init_31 : decode cX6_init 31 = .ok (.bipush 42, 2) := by decide +kernel
theorem dX6_init_33 : decode cX6_init 33 = .ok (.newarray .int, 2) := by decide +kernel
theorem dX6_init_35 : decode cX6_init 35 = .ok (.putfield 19, 3) := by decide +kernel
theorem dX6_init_38 : decode cX6_init 38 = .ok (.aload_n 0, 1) := by decide +kernel
theorem dX6_init_39 : decode cX6_init 39 = .ok (.getfield 7, 3) := by decide +kernel
theorem dX6_init_42 : decode cX6_init 42 = .ok (.iconst 0, 1) := by decide +kernel
theorem dX6_init_43 : decode cX6_init 43 = .ok (.iconst 3, 1) := by decide +kernel
theorem dX6_init_44 : decode cX6_init 44 = .ok (.iastore, 1) := by decide +kernel
theorem dX6_init_45 : decode cX6_init 45 = .ok (.aload_n 0, 1) := by decide +kernel
theorem dX6_init_46 : decode cX6_init 46 = .ok (.getfield 7, 3) := by decide +kernel
theorem dX6_init_49 : decode cX6_init 49 = .ok (.iconst 1, 1) := by decide +kernel
theorem dX6_init_50 : decode cX6_init 50 = .ok (.iconst 4, 1) := by decide +kernel
theorem dX6_init_51 : decode cX6_init 51 = .ok (.iastore, 1) := by decide +kernel
theorem dX6_init_52 : decode cX6_init 52 = .ok (.return_, 1) := by decide +kernel
theorem dX6_thrown_0 : decode cX6_thrown 0 = .ok (.aload_n 0, 1) := by decide +kernel
theorem dX6_thrown_1 : decode cX6_thrown 1 = .ok (.getfield 22, 3) := by decide +kernel
theorem dX6_thrown_4 : decode cX6_thrown 4 = .ok (.ireturn, 1) := by decide +kernel
theorem dX6_within_0 : decode cX6_within 0 = .ok (.iload_n 0, 1) := by decide +kernel
theorem dX6_within_1 : decode cX6_within 1 = .ok (.iload_n 1, 1) := by decide +kernel
theorem dX6_within_2 : decode cX6_within 2 = .ok (.if_icmp .lt 12, 3) := by decide +kernel
theorem dX6_within_5 : decode cX6_within 5 = .ok (.iload_n 0, 1) := by decide +kernel
theorem dX6_within_6 : decode cX6_within 6 = .ok (.iload_n 2, 1) := by decide +kernel
theorem dX6_within_7 : decode cX6_within 7 = .ok (.if_icmp .gt 7, 3) := by decide +kernel
theorem dX6_within_10 : decode cX6_within 10 = .ok (.iconst 1, 1) := by decide +kernel
theorem dX6_within_11 : decode cX6_within 11 = .ok (.goto 4, 3) := by decide +kernel
theorem dX6_within_14 : decode cX6_within 14 = .ok (.iconst 0, 1) := by decide +kernel
theorem dX6_within_15 : decode cX6_within 15 = .ok (.ireturn, 1) := by decide +kernel
theorem dX6_save_0 : decode cX6_save 0 = .ok (.aload_n 0, 1) := by decide +kernel
theorem dX6_save_1 : decode cX6_save 1 = .ok (.getfield 26, 3) := by decide +kernel
theorem dX6_save_4 : decode cX6_save 4 = .ok (.bipush 6, 2) := by decide +kernel
theorem dX6_save_6 : decode cX6_save 6 = .ok (.if_icmp .ne 46, 3) := by decide +kernel
theorem dX6_save_9 : decode cX6_save 9 = .ok (.sipush 163, 3) := by decide +kernel
theorem dX6_save_12 : decode cX6_save 12 = .ok (.istore_n 1, 1) := by decide +kernel
theorem dX6_save_13 : decode cX6_save 13 = .ok (.iload_n 1, 1) := by decide +kernel
theorem dX6_save_14 : decode cX6_save 14 = .ok (.sipush 978, 3) := by decide +kernel
theorem dX6_save_17 : decode cX6_save 17 = .ok (.if_icmp .ge 25, 3) := by decide +kernel
theorem dX6_save_20 : decode cX6_save 20 = .ok (.aload_n 0, 1) := by decide +kernel
theorem dX6_save_21 : decode cX6_save 21 = .ok (.getfield 13, 3) := by decide +kernel
theorem dX6_save_24 : decode cX6_save 24 = .ok (.iload_n 1, 1) := by decide +kernel
theorem dX6_save_25 : decode cX6_save 25 = .ok (.sipush 163, 3) := by decide +kernel
theorem dX6_save_28 : decode cX6_save 28 = .ok (.isub, 1) := by decide +kernel
theorem dX6_save_29 : decode cX6_save 29 = .ok (.aload_n 0, 1) := by decide +kernel
theorem dX6_save_30 : decode cX6_save 30 = .ok (.getfield 13, 3) := by decide +kernel
theorem dX6_save_33 : decode cX6_save 33 = .ok (.iload_n 1, 1) := by decide +kernel
theorem dX6_save_34 : decode cX6_save 34 = .ok (.iaload, 1) := by decide +kernel
theorem dX6_save_35 : decode cX6_save 35 = .ok (.iastore, 1) := by decide +kernel
theorem dX6_save_36 : decode cX6_save 36 = .ok (.iinc 1 1, 3) := by decide +kernel
theorem dX6_save_39 : decode cX6_save 39 = .ok (.goto (-26), 3) := by decide +kernel
theorem dX6_save_42 : decode cX6_save 42 = .ok (.aload_n 0, 1) := by decide +kernel
theorem dX6_save_43 : decode cX6_save 43 = .ok (.dup, 1) := by decide +kernel
theorem dX6_save_44 : decode cX6_save 44 = .ok (.getfield 26, 3) := by decide +kernel
theorem dX6_save_47 : decode cX6_save 47 = .ok (.iconst 1, 1) := by decide +kernel
theorem dX6_save_48 : decode cX6_save 48 = .ok (.isub, 1) := by decide +kernel
theorem dX6_save_49 : decode cX6_save 49 = .ok (.putfield 26, 3) := by decide +kernel
theorem dX6_save_52 : decode cX6_save 52 = .ok (.iconst 0, 1) := by decide +kernel
theorem dX6_save_53 : decode cX6_save 53 = .ok (.istore_n 1, 1) := by decide +kernel
theorem dX6_save_54 : decode cX6_save 54 = .ok (.iload_n 1, 1) := by decide +kernel
theorem dX6_save_55 : decode cX6_save 55 = .ok (.sipush 163, 3) := by decide +kernel
theorem dX6_save_58 : decode cX6_save 58 = .ok (.if_icmp .ge 30, 3) := by decide +kernel
theorem dX6_save_61 : decode cX6_save 61 = .ok (.aload_n 0, 1) := by decide +kernel
theorem dX6_save_62 : decode cX6_save 62 = .ok (.getfield 13, 3) := by decide +kernel
theorem dX6_save_65 : decode cX6_save 65 = .ok (.sipush 163, 3) := by decide +kernel
theorem dX6_save_68 : decode cX6_save 68 = .ok (.aload_n 0, 1) := by decide +kernel
theorem dX6_save_69 : decode cX6_save 69 = .ok (.getfield 26, 3) := by decide +kernel
theorem dX6_save_72 : decode cX6_save 72 = .ok (.imul, 1) := by decide +kernel
theorem dX6_save_73 : decode cX6_save 73 = .ok (.iload_n 1, 1) := by decide +kernel
theorem dX6_save_74 : decode cX6_save 74 = .ok (.iadd, 1) := by decide +kernel
theorem dX6_save_75 : decode cX6_save 75 = .ok (.aload_n 0, 1) := by decide +kernel
theorem dX6_save_76 : decode cX6_save 76 = .ok (.getfield 7, 3) := by decide +kernel
theorem dX6_save_79 : decode cX6_save 79 = .ok (.iload_n 1, 1) := by decide +kernel
theorem dX6_save_80 : decode cX6_save 80 = .ok (.iaload, 1) := by decide +kernel
theorem dX6_save_81 : decode cX6_save 81 = .ok (.iastore, 1) := by decide +kernel
theorem dX6_save_82 : decode cX6_save 82 = .ok (.iinc 1 1, 3) := by decide +kernel
theorem dX6_save_85 : decode cX6_save 85 = .ok (.goto (-31), 3) := by decide +kernel
theorem dX6_save_88 : decode cX6_save 88 = .ok (.aload_n 0, 1) := by decide +kernel
theorem dX6_save_89 : decode cX6_save 89 = .ok (.dup, 1) := by decide +kernel
theorem dX6_save_90 : decode cX6_save 90 = .ok (.getfield 26, 3) := by decide +kernel
theorem dX6_save_93 : decode cX6_save 93 = .ok (.iconst 1, 1) := by decide +kernel
theorem dX6_save_94 : decode cX6_save 94 = .ok (.iadd, 1) := by decide +kernel
theorem dX6_save_95 : decode cX6_save 95 = .ok (.putfield 26, 3) := by decide +kernel
theorem dX6_save_98 : decode cX6_save 98 = .ok (.return_, 1) := by decide +kernel
theorem dX6_has_0 : decode cX6_has 0 = .ok (.iload_n 0, 1) := by decide +kernel
theorem dX6_has_1 : decode cX6_has 1 = .ok (.iload_n 1, 1) := by decide +kernel
theorem dX6_has_2 : decode cX6_has 2 = .ok (.ishr, 1) := by decide +kernel
theorem dX6_has_3 : decode cX6_has 3 = .ok (.iconst 1, 1) := by decide +kernel
theorem dX6_has_4 : decode cX6_has 4 = .ok (.iand, 1) := by decide +kernel
theorem dX6_has_5 : decode cX6_has 5 = .ok (.iconst 1, 1) := by decide +kernel
theorem dX6_has_6 : decode cX6_has 6 = .ok (.if_icmp .ne 7, 3) := by decide +kernel
theorem dX6_has_9 : decode cX6_has 9 = .ok (.iconst 1, 1) := by decide +kernel
theorem dX6_has_10 : decode cX6_has 10 = .ok (.goto 4, 3) := by decide +kernel
theorem dX6_has_13 : decode cX6_has 13 = .ok (.iconst 0, 1) := by decide +kernel
theorem dX6_has_14 : decode cX6_has 14 = .ok (.ireturn, 1) := by decide +kernel
theorem dX6_ones_0 : decode cX6_ones 0 = .ok (.iconst 0, 1) := by decide +kernel
theorem dX6_ones_1 : decode cX6_ones 1 = .ok (.istore_n 1, 1) := by decide +kernel
theorem dX6_ones_2 : decode cX6_ones 2 = .ok (.iconst 0, 1) := by decide +kernel
theorem dX6_ones_3 : decode cX6_ones 3 = .ok (.istore_n 2, 1) := by decide +kernel
theorem dX6_ones_4 : decode cX6_ones 4 = .ok (.iload_n 2, 1) := by decide +kernel
theorem dX6_ones_5 : decode cX6_ones 5 = .ok (.bipush 12, 2) := by decide +kernel
theorem dX6_ones_7 : decode cX6_ones 7 = .ok (.if_icmp .ge 17, 3) := by decide +kernel
theorem dX6_ones_10 : decode cX6_ones 10 = .ok (.iload_n 1, 1) := by decide +kernel
theorem dX6_ones_11 : decode cX6_ones 11 = .ok (.iload_n 0, 1) := by decide +kernel
theorem dX6_ones_12 : decode cX6_ones 12 = .ok (.iload_n 2, 1) := by decide +kernel
theorem dX6_ones_13 : decode cX6_ones 13 = .ok (.ishr, 1) := by decide +kernel
theorem dX6_ones_14 : decode cX6_ones 14 = .ok (.iconst 1, 1) := by decide +kernel
theorem dX6_ones_15 : decode cX6_ones 15 = .ok (.iand, 1) := by decide +kernel
theorem dX6_ones_16 : decode cX6_ones 16 = .ok (.iadd, 1) := by decide +kernel
theorem dX6_ones_17 : decode cX6_ones 17 = .ok (.istore_n 1, 1) := by decide +kernel
theorem dX6_ones_18 : decode cX6_ones 18 = .ok (.iinc 2 1, 3) := by decide +kernel
theorem dX6_ones_21 : decode cX6_ones 21 = .ok (.goto (-17), 3) := by decide +kernel
theorem dX6_ones_24 : decode cX6_ones 24 = .ok (.iload_n 1, 1) := by decide +kernel
theorem dX6_ones_25 : decode cX6_ones 25 = .ok (.ireturn, 1) := by decide +kernel
theorem dX6_of_0 : decode cX6_of 0 = .ok (.aload_n 0, 1) := by decide +kernel
theorem dX6_of_1 : decode cX6_of 1 = .ok (.getfield 7, 3) := by decide +kernel
theorem dX6_of_4 : decode cX6_of 4 = .ok (.bipush 19, 2) := by decide +kernel
theorem dX6_of_6 : decode cX6_of 6 = .ok (.bipush 9, 2) := by decide +kernel
theorem dX6_of_8 : decode cX6_of 8 = .ok (.iload_n 1, 1) := by decide +kernel
theorem dX6_of_9 : decode cX6_of 9 = .ok (.imul, 1) := by decide +kernel
theorem dX6_of_10 : decode cX6_of 10 = .ok (.iadd, 1) := by decide +kernel
theorem dX6_of_11 : decode cX6_of 11 = .ok (.iload_n 2, 1) := by decide +kernel
theorem dX6_of_12 : decode cX6_of 12 = .ok (.iadd, 1) := by decide +kernel
theorem dX6_of_13 : decode cX6_of 13 = .ok (.iaload, 1) := by decide +kernel
theorem dX6_of_14 : decode cX6_of 14 = .ok (.ireturn, 1) := by decide +kernel
theorem dX6_put_0 : decode cX6_put 0 = .ok (.aload_n 0, 1) := by decide +kernel
theorem dX6_put_1 : decode cX6_put 1 = .ok (.getfield 7, 3) := by decide +kernel
theorem dX6_put_4 : decode cX6_put 4 = .ok (.bipush 19, 2) := by decide +kernel
theorem dX6_put_6 : decode cX6_put 6 = .ok (.bipush 9, 2) := by decide +kernel
theorem dX6_put_8 : decode cX6_put 8 = .ok (.iload_n 1, 1) := by decide +kernel
theorem dX6_put_9 : decode cX6_put 9 = .ok (.imul, 1) := by decide +kernel
theorem dX6_put_10 : decode cX6_put 10 = .ok (.iadd, 1) := by decide +kernel
theorem dX6_put_11 : decode cX6_put 11 = .ok (.iload_n 2, 1) := by decide +kernel
theorem dX6_put_12 : decode cX6_put 12 = .ok (.iadd, 1) := by decide +kernel
theorem dX6_put_13 : decode cX6_put 13 = .ok (.iload_n 3, 1) := by decide +kernel
theorem dX6_put_14 : decode cX6_put 14 = .ok (.iastore, 1) := by decide +kernel
theorem dX6_put_15 : decode cX6_put 15 = .ok (.return_, 1) := by decide +kernel
theorem dX6_ofRequest_0 : decode cX6_ofRequest 0 = .ok (.aload_n 0, 1) := by decide +kernel
theorem dX6_ofRequest_1 : decode cX6_ofRequest 1 = .ok (.getfield 7, 3) := by decide +kernel
theorem dX6_ofRequest_4 : decode cX6_ofRequest 4 = .ok (.bipush 127, 2) := by decide +kernel
theorem dX6_ofRequest_6 : decode cX6_ofRequest 6 = .ok (.bipush 6, 2) := by decide +kernel
theorem dX6_ofRequest_8 : decode cX6_ofRequest 8 = .ok (.iload_n 1, 1) := by decide +kernel
theorem dX6_ofRequest_9 : decode cX6_ofRequest 9 = .ok (.imul, 1) := by decide +kernel
theorem dX6_ofRequest_10 : decode cX6_ofRequest 10 = .ok (.iadd, 1) := by decide +kernel
theorem dX6_ofRequest_11 : decode cX6_ofRequest 11 = .ok (.iload_n 2, 1) := by decide +kernel
theorem dX6_ofRequest_12 : decode cX6_ofRequest 12 = .ok (.iadd, 1) := by decide +kernel
theorem dX6_ofRequest_13 : decode cX6_ofRequest 13 = .ok (.iaload, 1) := by decide +kernel
theorem dX6_ofRequest_14 : decode cX6_ofRequest 14 = .ok (.ireturn, 1) := by decide +kernel
set_option maxRecDepth 20000 in
theorem ggX6_isMandate_X6_within : GoodIn wsX6_isMandate wsX6_within := goodIn_r _ [5] (by decide +kernel) (by decide +kernel)
set_option maxRecDepth 20000 in
theorem gX6_isMandate_X6_within : GoodIn wsX6_isMandate (va_wsS RX6 29 yX6_within wsX6_within) := goodIn_app (goodIn_of _ (by decide +kernel)) ggX6_isMandate_X6_within
theorem dX6_isMandate_0 : decode cX6_isMandate 0 = .ok (.iload_n 1, 1) := by decide +kernel
theorem dX6_isMandate_1 : decode cX6_isMandate 1 = .ok (.iconst 0, 1) := by decide +kernel
theorem dX6_isMandate_2 : decode cX6_isMandate 2 = .ok (.aload_n 0, 1) := by decide +kernel
theorem dX6_isMandate_3 : decode cX6_isMandate 3 = .ok (.getfield 7, 3) := by decide +kernel
theorem dX6_isMandate_6 : decode cX6_isMandate 6 = .ok (.iconst 3, 1) := by decide +kernel
theorem dX6_isMandate_7 : decode cX6_isMandate 7 = .ok (.iaload, 1) := by decide +kernel
theorem dX6_isMandate_8 : decode cX6_isMandate 8 = .ok (.iconst 1, 1) := by decide +kernel
theorem dX6_isMandate_9 : decode cX6_isMandate 9 = .ok (.isub, 1) := by decide +kernel
theorem dX6_isMandate_10 : decode cX6_isMandate 10 = .ok (.invokestatic 29, 3) := by decide +kernel
theorem dX6_isMandate_13 : decode cX6_isMandate 13 = .ok (.ireturn, 1) := by decide +kernel
set_option maxRecDepth 20000 in
theorem ggX6_isRequest_X6_within : GoodIn wsX6_isRequest wsX6_within := goodIn_r _ [5] (by decide +kernel) (by decide +kernel)
set_option maxRecDepth 20000 in
theorem gX6_isRequest_X6_within : GoodIn wsX6_isRequest (va_wsS RX6 29 yX6_within wsX6_within) := goodIn_app (goodIn_of _ (by decide +kernel)) ggX6_isRequest_X6_within
theorem dX6_isRequest_0 : decode cX6_isRequest 0 = .ok (.iload_n 1, 1) := by decide +kernel
theorem dX6_isRequest_1 : decode cX6_isRequest 1 = .ok (.iconst 0, 1) := by decide +kernel
theorem dX6_isRequest_2 : decode cX6_isRequest 2 = .ok (.aload_n 0, 1) := by decide +kernel
theorem dX6_isRequest_3 : decode cX6_isRequest 3 = .ok (.getfield 7, 3) := by decide +kernel
theorem dX6_isRequest_6 : decode cX6_isRequest 6 = .ok (.iconst 4, 1) := by decide +kernel
theorem dX6_isRequest_7 : decode cX6_isRequest 7 = .ok (.iaload, 1) := by decide +kernel
theorem dX6_isRequest_8 : decode cX6_isRequest 8 = .ok (.iconst 1, 1) := by decide +kernel
theorem dX6_isRequest_9 : decode cX6_isRequest 9 = .ok (.isub, 1) := by decide +kernel
theorem dX6_isRequest_10 : decode cX6_isRequest 10 = .ok (.invokestatic 29, 3) := by decide +kernel
theorem dX6_isRequest_13 : decode cX6_isRequest 13 = .ok (.ireturn, 1) := by decide +kernel
set_option maxRecDepth 20000 in
theorem ggX6_isPerson_X6_within : GoodIn wsX6_isPerson wsX6_within := goodIn_r _ [4] (by decide +kernel) (by decide +kernel)
set_option maxRecDepth 20000 in
theorem gX6_isPerson_X6_within : GoodIn wsX6_isPerson (va_wsS RX6 29 yX6_within wsX6_within) := goodIn_app (goodIn_of _ (by decide +kernel)) ggX6_isPerson_X6_within
theorem dX6_isPerson_0 : decode cX6_isPerson 0 = .ok (.iload_n 0, 1) := by decide +kernel
theorem dX6_isPerson_1 : decode cX6_isPerson 1 = .ok (.iconst 0, 1) := by decide +kernel
theorem dX6_isPerson_2 : decode cX6_isPerson 2 = .ok (.bipush 7, 2) := by decide +kernel
theorem dX6_isPerson_4 : decode cX6_isPerson 4 = .ok (.invokestatic 29, 3) := by decide +kernel
theorem dX6_isPerson_7 : decode cX6_isPerson 7 = .ok (.ireturn, 1) := by decide +kernel
set_option maxRecDepth 20000 in
theorem ggX6_isMoney_X6_within : GoodIn wsX6_isMoney wsX6_within := goodIn_r _ [4] (by decide +kernel) (by decide +kernel)
set_option maxRecDepth 20000 in
theorem gX6_isMoney_X6_within : GoodIn wsX6_isMoney (va_wsS RX6 29 yX6_within wsX6_within) := goodIn_app (goodIn_of _ (by decide +kernel)) ggX6_isMoney_X6_within
theorem dX6_isMoney_0 : decode cX6_isMoney 0 = .ok (.iload_n 0, 1) := by decide +kernel
theorem dX6_isMoney_1 : decode cX6_isMoney 1 = .ok (.iconst 1, 1) := by decide +kernel
theorem dX6_isMoney_2 : decode cX6_isMoney 2 = .ok (.sipush 9999, 3) := by decide +kernel
theorem dX6_isMoney_5 : decode cX6_isMoney 5 = .ok (.invokestatic 29, 3) := by decide +kernel
theorem dX6_isMoney_8 : decode cX6_isMoney 8 = .ok (.ireturn, 1) := by decide +kernel
set_option maxRecDepth 20000 in
theorem ggX6_stands_X6_of : GoodIn wsX6_stands wsX6_of := goodIn_r _ [5, 6, 7, 8, 9, 10, 11, 12, 13, 14, 15, 16, 17] (by decide +kernel) (by decide +kernel)
set_option maxRecDepth 20000 in
theorem gX6_stands_X6_of : GoodIn wsX6_stands (wsV RX6 33 RX6 yX6_of wsX6_of) := goodIn_app (goodIn_of _ (by decide +kernel)) ggX6_stands_X6_of
theorem dX6_stands_0 : decode cX6_stands 0 = .ok (.aload_n 0, 1) := by decide +kernel
theorem dX6_stands_1 : decode cX6_stands 1 = .ok (.iload_n 1, 1) := by decide +kernel
theorem dX6_stands_2 : decode cX6_stands 2 = .ok (.iconst 5, 1) := by decide +kernel
theorem dX6_stands_3 : decode cX6_stands 3 = .ok (.invokevirtual 33, 3) := by decide +kernel
theorem dX6_stands_6 : decode cX6_stands 6 = .ok (.iconst 1, 1) := by decide +kernel
theorem dX6_stands_7 : decode cX6_stands 7 = .ok (.if_icmp .ne 7, 3) := by decide +kernel
theorem dX6_stands_10 : decode cX6_stands 10 = .ok (.iconst 1, 1) := by decide +kernel
theorem dX6_stands_11 : decode cX6_stands 11 = .ok (.goto 4, 3) := by decide +kernel
theorem dX6_stands_14 : decode cX6_stands 14 = .ok (.iconst 0, 1) := by decide +kernel
theorem dX6_stands_15 : decode cX6_stands 15 = .ok (.ireturn, 1) := by decide +kernel
set_option maxRecDepth 20000 in
theorem ggX6_isInChain_X6_of : GoodIn wsX6_isInChain wsX6_of := goodIn_r _ [5, 6, 7, 8, 9, 10, 11, 12, 13, 14, 15, 16, 17] (by decide +kernel) (by decide +kernel)
set_option maxRecDepth 20000 in
theorem gX6_isInChain_X6_of : GoodIn wsX6_isInChain (wsV RX6 33 RX6 yX6_of wsX6_of) := goodIn_app (goodIn_of _ (by decide +kernel)) ggX6_isInChain_X6_of
theorem dX6_isInChain_0 : decode cX6_isInChain 0 = .ok (.iconst 0, 1) := by decide +kernel
theorem dX6_isInChain_1 : decode cX6_isInChain 1 = .ok (.istore_n 3, 1) := by decide +kernel
theorem dX6_isInChain_2 : decode cX6_isInChain 2 = .ok (.iload_n 2, 1) := by decide +kernel
theorem dX6_isInChain_3 : decode cX6_isInChain 3 = .ok (.istore 4, 2) := by decide +kernel
theorem dX6_isInChain_5 : decode cX6_isInChain 5 = .ok (.iload 4, 2) := by decide +kernel
theorem dX6_isInChain_7 : decode cX6_isInChain 7 = .ok (.iconst (-1), 1) := by decide +kernel
theorem dX6_isInChain_8 : decode cX6_isInChain 8 = .ok (.if_icmp .eq 31, 3) := by decide +kernel
theorem dX6_isInChain_11 : decode cX6_isInChain 11 = .ok (.iload_n 3, 1) := by decide +kernel
theorem dX6_isInChain_12 : decode cX6_isInChain 12 = .ok (.ifCond .ne 9, 3) := by decide +kernel
theorem dX6_isInChain_15 : decode cX6_isInChain 15 = .ok (.iload 4, 2) := by decide +kernel
theorem dX6_isInChain_17 : decode cX6_isInChain 17 = .ok (.iload_n 1, 1) := by decide +kernel
theorem dX6_isInChain_18 : decode cX6_isInChain 18 = .ok (.if_icmp .ne 7, 3) := by decide +kernel
theorem dX6_isInChain_21 : decode cX6_isInChain 21 = .ok (.iconst 1, 1) := by decide +kernel
theorem dX6_isInChain_22 : decode cX6_isInChain 22 = .ok (.goto 4, 3) := by decide +kernel
theorem dX6_isInChain_25 : decode cX6_isInChain 25 = .ok (.iconst 0, 1) := by decide +kernel
theorem dX6_isInChain_26 : decode cX6_isInChain 26 = .ok (.istore_n 3, 1) := by decide +kernel
theorem dX6_isInChain_27 : decode cX6_isInChain 27 = .ok (.aload_n 0, 1) := by decide +kernel
theorem dX6_isInChain_28 : decode cX6_isInChain 28 = .ok (.iload 4, 2) := by decide +kernel
theorem dX6_isInChain_30 : decode cX6_isInChain 30 = .ok (.iconst 0, 1) := by decide +kernel
theorem dX6_isInChain_31 : decode cX6_isInChain 31 = .ok (.invokevirtual 33, 3) := by decide +kernel
theorem dX6_isInChain_34 : decode cX6_isInChain 34 = .ok (.istore 4, 2) := by decide +kernel
theorem dX6_isInChain_36 : decode cX6_isInChain 36 = .ok (.goto (-31), 3) := by decide +kernel
theorem dX6_isInChain_39 : decode cX6_isInChain 39 = .ok (.iload_n 3, 1) := by decide +kernel
theorem dX6_isInChain_40 : decode cX6_isInChain 40 = .ok (.ireturn, 1) := by decide +kernel
set_option maxRecDepth 20000 in
theorem ggX6_chainOf_X6_of : GoodIn wsX6_chainOf wsX6_of := goodIn_r _ [5, 6, 7, 8, 9, 10, 11, 12, 13, 14, 15, 16, 17] (by decide +kernel) (by decide +kernel)
set_option maxRecDepth 20000 in
theorem gX6_chainOf_X6_of : GoodIn wsX6_chainOf (wsV RX6 33 RX6 yX6_of wsX6_of) := goodIn_app (goodIn_of _ (by decide +kernel)) ggX6_chainOf_X6_of
theorem dX6_chainOf_0 : decode cX6_chainOf 0 = .ok (.iconst 0, 1) := by decide +kernel
theorem dX6_chainOf_1 : decode cX6_chainOf 1 = .ok (.istore_n 2, 1) := by decide +kernel
theorem dX6_chainOf_2 : decode cX6_chainOf 2 = .ok (.iload_n 1, 1) := by decide +kernel
theorem dX6_chainOf_3 : decode cX6_chainOf 3 = .ok (.istore_n 3, 1) := by decide +kernel
theorem dX6_chainOf_4 : decode cX6_chainOf 4 = .ok (.iload_n 3, 1) := by decide +kernel
theorem dX6_chainOf_5 : decode cX6_chainOf 5 = .ok (.iconst (-1), 1) := by decide +kernel
theorem dX6_chainOf_6 : decode cX6_chainOf 6 = .ok (.if_icmp .eq 16, 3) := by decide +kernel
theorem dX6_chainOf_9 : decode cX6_chainOf 9 = .ok (.iinc 2 1, 3) := by decide +kernel
theorem dX6_chainOf_12 : decode cX6_chainOf 12 = .ok (.aload_n 0, 1) := by decide +kernel
theorem dX6_chainOf_13 : decode cX6_chainOf 13 = .ok (.iload_n 3, 1) := by decide +kernel
theorem dX6_chainOf_14 : decode cX6_chainOf 14 = .ok (.iconst 0, 1) := by decide +kernel
theorem dX6_chainOf_15 : decode cX6_chainOf 15 = .ok (.invokevirtual 33, 3) := by decide +kernel
theorem dX6_chainOf_18 : decode cX6_chainOf 18 = .ok (.istore_n 3, 1) := by decide +kernel
theorem dX6_chainOf_19 : decode cX6_chainOf 19 = .ok (.goto (-15), 3) := by decide +kernel
theorem dX6_chainOf_22 : decode cX6_chainOf 22 = .ok (.iload_n 2, 1) := by decide +kernel
theorem dX6_chainOf_23 : decode cX6_chainOf 23 = .ok (.ireturn, 1) := by decide +kernel
set_option maxRecDepth 20000 in
theorem ggX6_gapOf_X6_of : GoodIn wsX6_gapOf wsX6_of := goodIn_r _ [5, 6, 7, 8, 9, 10, 11, 12, 13, 14, 15, 16, 17] (by decide +kernel) (by decide +kernel)
set_option maxRecDepth 20000 in
theorem gX6_gapOf_X6_of : GoodIn wsX6_gapOf (wsV RX6 33 RX6 yX6_of wsX6_of) := goodIn_app (goodIn_of _ (by decide +kernel)) ggX6_gapOf_X6_of
theorem dX6_gapOf_0 : decode cX6_gapOf 0 = .ok (.aload_n 0, 1) := by decide +kernel
theorem dX6_gapOf_1 : decode cX6_gapOf 1 = .ok (.iload_n 1, 1) := by decide +kernel
theorem dX6_gapOf_2 : decode cX6_gapOf 2 = .ok (.iconst 3, 1) := by decide +kernel
theorem dX6_gapOf_3 : decode cX6_gapOf 3 = .ok (.invokevirtual 33, 3) := by decide +kernel
theorem dX6_gapOf_6 : decode cX6_gapOf 6 = .ok (.aload_n 0, 1) := by decide +kernel
theorem dX6_gapOf_7 : decode cX6_gapOf 7 = .ok (.iload_n 1, 1) := by decide +kernel
theorem dX6_gapOf_8 : decode cX6_gapOf 8 = .ok (.bipush 6, 2) := by decide +kernel
theorem dX6_gapOf_10 : decode cX6_gapOf 10 = .ok (.invokevirtual 33, 3) := by decide +kernel
theorem dX6_gapOf_13 : decode cX6_gapOf 13 = .ok (.isub, 1) := by decide +kernel
theorem dX6_gapOf_14 : decode cX6_gapOf 14 = .ok (.ireturn, 1) := by decide +kernel
set_option maxRecDepth 20000 in
theorem ggX6_narrowestOf_X6_gapOf : GoodIn wsX6_narrowestOf wsX6_gapOf := goodIn_r _ [5, 6, 7, 8, 4, 9, 10, 11, 12, 13, 14, 15, 16, 17, 18, 19, 20, 21] (by decide +kernel) (by decide +kernel)
set_option maxRecDepth 20000 in
theorem gX6_narrowestOf_X6_gapOf : GoodIn wsX6_narrowestOf (wsV RX6 37 RX6 yX6_gapOf wsX6_gapOf) := goodIn_app (goodIn_of _ (by decide +kernel)) ggX6_narrowestOf_X6_gapOf
set_option maxRecDepth 20000 in
theorem ggX6_narrowestOf_X6_of : GoodIn wsX6_narrowestOf wsX6_of := goodIn_r _ [9, 10, 11, 12, 13, 14, 15, 16, 17, 18, 19, 20, 21] (by decide +kernel) (by decide +kernel)
set_option maxRecDepth 20000 in
theorem gX6_narrowestOf_X6_of : GoodIn wsX6_narrowestOf (wsV RX6 33 RX6 yX6_of wsX6_of) := goodIn_app (goodIn_of _ (by decide +kernel)) ggX6_narrowestOf_X6_of
theorem dX6_narrowestOf_0 : decode cX6_narrowestOf 0 = .ok (.iload_n 1, 1) := by decide +kernel
theorem dX6_narrowestOf_1 : decode cX6_narrowestOf 1 = .ok (.istore_n 2, 1) := by decide +kernel
theorem dX6_narrowestOf_2 : decode cX6_narrowestOf 2 = .ok (.iload_n 1, 1) := by decide +kernel
theorem dX6_narrowestOf_3 : decode cX6_narrowestOf 3 = .ok (.istore_n 3, 1) := by decide +kernel
theorem dX6_narrowestOf_4 : decode cX6_narrowestOf 4 = .ok (.iload_n 3, 1) := by decide +kernel
theorem dX6_narrowestOf_5 : decode cX6_narrowestOf 5 = .ok (.iconst (-1), 1) := by decide +kernel
theorem dX6_narrowestOf_6 : decode cX6_narrowestOf 6 = .ok (.if_icmp .eq 32, 3) := by decide +kernel
theorem dX6_narrowestOf_9 : decode cX6_narrowestOf 9 = .ok (.aload_n 0, 1) := by decide +kernel
theorem dX6_narrowestOf_10 : decode cX6_narrowestOf 10 = .ok (.iload_n 3, 1) := by decide +kernel
theorem dX6_narrowestOf_11 : decode cX6_narrowestOf 11 = .ok (.invokevirtual 37, 3) := by decide +kernel
theorem dX6_narrowestOf_14 : decode cX6_narrowestOf 14 = .ok (.aload_n 0, 1) := by decide +kernel
theorem dX6_narrowestOf_15 : decode cX6_narrowestOf 15 = .ok (.iload_n 2, 1) := by decide +kernel
theorem dX6_narrowestOf_16 : decode cX6_narrowestOf 16 = .ok (.invokevirtual 37, 3) := by decide +kernel
theorem dX6_narrowestOf_19 : decode cX6_narrowestOf 19 = .ok (.if_icmp .ge 7, 3) := by decide +kernel
theorem dX6_narrowestOf_22 : decode cX6_narrowestOf 22 = .ok (.iload_n 3, 1) := by decide +kernel
theorem dX6_narrowestOf_23 : decode cX6_narrowestOf 23 = .ok (.goto 4, 3) := by decide +kernel
theorem dX6_narrowestOf_26 : decode cX6_narrowestOf 26 = .ok (.iload_n 2, 1) := by decide +kernel
theorem dX6_narrowestOf_27 : decode cX6_narrowestOf 27 = .ok (.istore_n 2, 1) := by decide +kernel
theorem dX6_narrowestOf_28 : decode cX6_narrowestOf 28 = .ok (.aload_n 0, 1) := by decide +kernel
theorem dX6_narrowestOf_29 : decode cX6_narrowestOf 29 = .ok (.iload_n 3, 1) := by decide +kernel
theorem dX6_narrowestOf_30 : decode cX6_narrowestOf 30 = .ok (.iconst 0, 1) := by decide +kernel
theorem dX6_narrowestOf_31 : decode cX6_narrowestOf 31 = .ok (.invokevirtual 33, 3) := by decide +kernel
theorem dX6_narrowestOf_34 : decode cX6_narrowestOf 34 = .ok (.istore_n 3, 1) := by decide +kernel
theorem dX6_narrowestOf_35 : decode cX6_narrowestOf 35 = .ok (.goto (-31), 3) := by decide +kernel
theorem dX6_narrowestOf_38 : decode cX6_narrowestOf 38 = .ok (.iload_n 2, 1) := by decide +kernel
theorem dX6_narrowestOf_39 : decode cX6_narrowestOf 39 = .ok (.ireturn, 1) := by decide +kernel
set_option maxRecDepth 20000 in
theorem ggX6_standingUnder_X6_stands : GoodIn wsX6_standingUnder wsX6_stands := goodIn_r _ [6, 7, 8, 9, 5, 10, 1, 15, 16, 17, 18, 19, 20, 21, 22, 23, 24, 25] (by decide +kernel) (by decide +kernel)
set_option maxRecDepth 20000 in
theorem gX6_standingUnder_X6_stands : GoodIn wsX6_standingUnder (wsV RX6 41 RX6 yX6_stands wsX6_stands) := goodIn_app (goodIn_of _ (by decide +kernel)) ggX6_standingUnder_X6_stands
set_option maxRecDepth 20000 in
theorem ggX6_standingUnder_X6_isInChain : GoodIn wsX6_standingUnder wsX6_isInChain := goodIn_r _ [14, 7, 8, 9, 5, 10, 1, 15, 16, 17, 18, 19, 20, 21, 22, 23, 24, 25] (by decide +kernel) (by decide +kernel)
set_option maxRecDepth 20000 in
theorem gX6_standingUnder_X6_isInChain : GoodIn wsX6_standingUnder (wsV RX6 45 RX6 yX6_isInChain wsX6_isInChain) := goodIn_app (goodIn_of _ (by decide +kernel)) ggX6_standingUnder_X6_isInChain
theorem dX6_standingUnder_0 : decode cX6_standingUnder 0 = .ok (.iconst 0, 1) := by decide +kernel
theorem dX6_standingUnder_1 : decode cX6_standingUnder 1 = .ok (.istore_n 2, 1) := by decide +kernel
theorem dX6_standingUnder_2 : decode cX6_standingUnder 2 = .ok (.iconst 0, 1) := by decide +kernel
theorem dX6_standingUnder_3 : decode cX6_standingUnder 3 = .ok (.istore_n 3, 1) := by decide +kernel
theorem dX6_standingUnder_4 : decode cX6_standingUnder 4 = .ok (.iload_n 3, 1) := by decide +kernel
theorem dX6_standingUnder_5 : decode cX6_standingUnder 5 = .ok (.aload_n 0, 1) := by decide +kernel
theorem dX6_standingUnder_6 : decode cX6_standingUnder 6 = .ok (.getfield 7, 3) := by decide +kernel
theorem dX6_standingUnder_9 : decode cX6_standingUnder 9 = .ok (.iconst 3, 1) := by decide +kernel
theorem dX6_standingUnder_10 : decode cX6_standingUnder 10 = .ok (.iaload, 1) := by decide +kernel
theorem dX6_standingUnder_11 : decode cX6_standingUnder 11 = .ok (.if_icmp .ge 36, 3) := by decide +kernel
theorem dX6_standingUnder_14 : decode cX6_standingUnder 14 = .ok (.iload_n 2, 1) := by decide +kernel
theorem dX6_standingUnder_15 : decode cX6_standingUnder 15 = .ok (.aload_n 0, 1) := by decide +kernel
theorem dX6_standingUnder_16 : decode cX6_standingUnder 16 = .ok (.iload_n 3, 1) := by decide +kernel
theorem dX6_standingUnder_17 : decode cX6_standingUnder 17 = .ok (.invokevirtual 41, 3) := by decide +kernel
theorem dX6_standingUnder_20 : decode cX6_standingUnder 20 = .ok (.ifCond .eq 18, 3) := by decide +kernel
theorem dX6_standingUnder_23 : decode cX6_standingUnder 23 = .ok (.aload_n 0, 1) := by decide +kernel
theorem dX6_standingUnder_24 : decode cX6_standingUnder 24 = .ok (.iload_n 1, 1) := by decide +kernel
theorem dX6_standingUnder_25 : decode cX6_standingUnder 25 = .ok (.iload_n 3, 1) := by decide +kernel
theorem dX6_standingUnder_26 : decode cX6_standingUnder 26 = .ok (.invokevirtual 45, 3) := by decide +kernel
theorem dX6_standingUnder_29 : decode cX6_standingUnder 29 = .ok (.ifCond .eq 9, 3) := by decide +kernel
theorem dX6_standingUnder_32 : decode cX6_standingUnder 32 = .ok (.iconst 1, 1) := by decide +kernel
theorem dX6_standingUnder_33 : decode cX6_standingUnder 33 = .ok (.iload_n 3, 1) := by decide +kernel
theorem dX6_standingUnder_34 : decode cX6_standingUnder 34 = .ok (.ishl, 1) := by decide +kernel
theorem dX6_standingUnder_35 : decode cX6_standingUnder 35 = .ok (.goto 4, 3) := by decide +kernel
theorem dX6_standingUnder_38 : decode cX6_standingUnder 38 = .ok (.iconst 0, 1) := by decide +kernel
theorem dX6_standingUnder_39 : decode cX6_standingUnder 39 = .ok (.ior, 1) := by decide +kernel
theorem dX6_standingUnder_40 : decode cX6_standingUnder 40 = .ok (.istore_n 2, 1) := by decide +kernel
theorem dX6_standingUnder_41 : decode cX6_standingUnder 41 = .ok (.iinc 3 1, 3) := by decide +kernel
theorem dX6_standingUnder_44 : decode cX6_standingUnder 44 = .ok (.goto (-40), 3) := by decide +kernel
theorem dX6_standingUnder_47 : decode cX6_standingUnder 47 = .ok (.iload_n 2, 1) := by decide +kernel
theorem dX6_standingUnder_48 : decode cX6_standingUnder 48 = .ok (.ireturn, 1) := by decide +kernel
theorem dX6_removeRequest_0 : decode cX6_removeRequest 0 = .ok (.aload_n 0, 1) := by decide +kernel
theorem dX6_removeRequest_1 : decode cX6_removeRequest 1 = .ok (.getfield 7, 3) := by decide +kernel
theorem dX6_removeRequest_4 : decode cX6_removeRequest 4 = .ok (.iconst 4, 1) := by decide +kernel
theorem dX6_removeRequest_5 : decode cX6_removeRequest 5 = .ok (.dup2, 1) := by decide +kernel
theorem dX6_removeRequest_6 : decode cX6_removeRequest 6 = .ok (.iaload, 1) := by decide +kernel
theorem dX6_removeRequest_7 : decode cX6_removeRequest 7 = .ok (.iconst 1, 1) := by decide +kernel
theorem dX6_removeRequest_8 : decode cX6_removeRequest 8 = .ok (.isub, 1) := by decide +kernel
theorem dX6_removeRequest_9 : decode cX6_removeRequest 9 = .ok (.iastore, 1) := by decide +kernel
theorem dX6_removeRequest_10 : decode cX6_removeRequest 10 = .ok (.bipush 127, 2) := by decide +kernel
theorem dX6_removeRequest_12 : decode cX6_removeRequest 12 = .ok (.bipush 6, 2) := by decide +kernel
theorem dX6_removeRequest_14 : decode cX6_removeRequest 14 = .ok (.iload_n 1, 1) := by decide +kernel
theorem dX6_removeRequest_15 : decode cX6_removeRequest 15 = .ok (.imul, 1) := by decide +kernel
theorem dX6_removeRequest_16 : decode cX6_removeRequest 16 = .ok (.iadd, 1) := by decide +kernel
theorem dX6_removeRequest_17 : decode cX6_removeRequest 17 = .ok (.istore_n 2, 1) := by decide +kernel
theorem dX6_removeRequest_18 : decode cX6_removeRequest 18 = .ok (.iload_n 2, 1) := by decide +kernel
theorem dX6_removeRequest_19 : decode cX6_removeRequest 19 = .ok (.bipush 127, 2) := by decide +kernel
theorem dX6_removeRequest_21 : decode cX6_removeRequest 21 = .ok (.bipush 6, 2) := by decide +kernel
theorem dX6_removeRequest_23 : decode cX6_removeRequest 23 = .ok (.aload_n 0, 1) := by decide +kernel
theorem dX6_removeRequest_24 : decode cX6_removeRequest 24 = .ok (.getfield 7, 3) := by decide +kernel
theorem dX6_removeRequest_27 : decode cX6_removeRequest 27 = .ok (.iconst 4, 1) := by decide +kernel
theorem dX6_removeRequest_28 : decode cX6_removeRequest 28 = .ok (.iaload, 1) := by decide +kernel
theorem dX6_removeRequest_29 : decode cX6_removeRequest 29 = .ok (.imul, 1) := by decide +kernel
theorem dX6_removeRequest_30 : decode cX6_removeRequest 30 = .ok (.iadd, 1) := by decide +kernel
theorem dX6_removeRequest_31 : decode cX6_removeRequest 31 = .ok (.if_icmp .ge 24, 3) := by decide +kernel
theorem dX6_removeRequest_34 : decode cX6_removeRequest 34 = .ok (.aload_n 0, 1) := by decide +kernel
theorem dX6_removeRequest_35 : decode cX6_removeRequest 35 = .ok (.getfield 7, 3) := by decide +kernel
theorem dX6_removeRequest_38 : decode cX6_removeRequest 38 = .ok (.iload_n 2, 1) := by decide +kernel
theorem dX6_removeRequest_39 : decode cX6_removeRequest 39 = .ok (.aload_n 0, 1) := by decide +kernel
theorem dX6_removeRequest_40 : decode cX6_removeRequest 40 = .ok (.getfield 7, 3) := by decide +kernel
theorem dX6_removeRequest_43 : decode cX6_removeRequest 43 = .ok (.iload_n 2, 1) := by decide +kernel
theorem dX6_removeRequest_44 : decode cX6_removeRequest 44 = .ok (.bipush 6, 2) := by decide +kernel
theorem dX6_removeRequest_46 : decode cX6_removeRequest 46 = .ok (.iadd, 1) := by decide +kernel
theorem dX6_removeRequest_47 : decode cX6_removeRequest 47 = .ok (.iaload, 1) := by decide +kernel
theorem dX6_removeRequest_48 : decode cX6_removeRequest 48 = .ok (.iastore, 1) := by decide +kernel
theorem dX6_removeRequest_49 : decode cX6_removeRequest 49 = .ok (.iinc 2 1, 3) := by decide +kernel
theorem dX6_removeRequest_52 : decode cX6_removeRequest 52 = .ok (.goto (-34), 3) := by decide +kernel
theorem dX6_removeRequest_55 : decode cX6_removeRequest 55 = .ok (.return_, 1) := by decide +kernel
set_option maxRecDepth 20000 in
theorem ggX6_lapse_X6_standingUnder : GoodIn wsX6_lapse wsX6_standingUnder := goodIn_r _ [6, 1, 7, 8, 9, 5, 10, 11, 12, 13, 14, 15, 16, 17, 18, 37, 38, 39, 40, 41, 42, 43, 44, 45, 46, 47] (by decide +kernel) (by decide +kernel)
set_option maxRecDepth 20000 in
theorem gX6_lapse_X6_standingUnder : GoodIn wsX6_lapse (wsV RX6 49 RX6 yX6_standingUnder wsX6_standingUnder) := goodIn_app (goodIn_of _ (by decide +kernel)) ggX6_lapse_X6_standingUnder
set_option maxRecDepth 20000 in
theorem ggX6_lapse_X6_has : GoodIn wsX6_lapse wsX6_has := goodIn_r _ [21] (by decide +kernel) (by decide +kernel)
set_option maxRecDepth 20000 in
theorem gX6_lapse_X6_has : GoodIn wsX6_lapse (va_wsS RX6 52 yX6_has wsX6_has) := goodIn_app (goodIn_of _ (by decide +kernel)) ggX6_lapse_X6_has
set_option maxRecDepth 20000 in
theorem ggX6_lapse_X6_put : GoodIn wsX6_lapse wsX6_put := goodIn_r _ [25, 1, 37, 38, 39, 40, 41, 42, 43, 44, 45, 46, 47] (by decide +kernel) (by decide +kernel)
set_option maxRecDepth 20000 in
theorem gX6_lapse_X6_put : GoodIn wsX6_lapse (wsV RX6 55 RX6 yX6_put wsX6_put) := goodIn_app (goodIn_of _ (by decide +kernel)) ggX6_lapse_X6_put
set_option maxRecDepth 20000 in
theorem ggX6_lapse_X6_ofRequest : GoodIn wsX6_lapse wsX6_ofRequest := goodIn_r _ [29, 1, 37, 38, 39, 40, 41, 42, 43, 44, 45, 46, 47] (by decide +kernel) (by decide +kernel)
set_option maxRecDepth 20000 in
theorem gX6_lapse_X6_ofRequest : GoodIn wsX6_lapse (wsV RX6 59 RX6 yX6_ofRequest wsX6_ofRequest) := goodIn_app (goodIn_of _ (by decide +kernel)) ggX6_lapse_X6_ofRequest
set_option maxRecDepth 20000 in
theorem ggX6_lapse_X6_removeRequest : GoodIn wsX6_lapse wsX6_removeRequest := goodIn_r _ [33, 1, 37, 38, 39, 40, 41, 42, 43, 44, 45, 46, 47] (by decide +kernel) (by decide +kernel)
set_option maxRecDepth 20000 in
theorem gX6_lapse_X6_removeRequest : GoodIn wsX6_lapse (wsV RX6 62 RX6 yX6_removeRequest wsX6_removeRequest) := goodIn_app (goodIn_of _ (by decide +kernel)) ggX6_lapse_X6_removeRequest
set_option maxRecDepth 20000 in
theorem ggX6_lapse_X6_ones : GoodIn wsX6_lapse wsX6_ones := goodIn_r _ [36] (by decide +kernel) (by decide +kernel)
set_option maxRecDepth 20000 in
theorem gX6_lapse_X6_ones : GoodIn wsX6_lapse (va_wsS RX6 66 yX6_ones wsX6_ones) := goodIn_app (goodIn_of _ (by decide +kernel)) ggX6_lapse_X6_ones
theorem dX6_lapse_0 : decode cX6_lapse 0 = .ok (.aload_n 0, 1) := by decide +kernel
theorem dX6_lapse_1 : decode cX6_lapse 1 = .ok (.iload_n 1, 1) := by decide +kernel
theorem dX6_lapse_2 : decode cX6_lapse 2 = .ok (.invokevirtual 49, 3) := by decide +kernel
theorem dX6_lapse_5 : decode cX6_lapse 5 = .ok (.istore_n 2, 1) := by decide +kernel
theorem dX6_lapse_6 : decode cX6_lapse 6 = .ok (.iconst 0, 1) := by decide +kernel
theorem dX6_lapse_7 : decode cX6_lapse 7 = .ok (.istore_n 3, 1) := by decide +kernel
theorem dX6_lapse_8 : decode cX6_lapse 8 = .ok (.iload_n 3, 1) := by decide +kernel
theorem dX6_lapse_9 : decode cX6_lapse 9 = .ok (.aload_n 0, 1) := by decide +kernel
theorem dX6_lapse_10 : decode cX6_lapse 10 = .ok (.getfield 7, 3) := by decide +kernel
theorem dX6_lapse_13 : decode cX6_lapse 13 = .ok (.iconst 3, 1) := by decide +kernel
theorem dX6_lapse_14 : decode cX6_lapse 14 = .ok (.iaload, 1) := by decide +kernel
theorem dX6_lapse_15 : decode cX6_lapse 15 = .ok (.if_icmp .ge 37, 3) := by decide +kernel
theorem dX6_lapse_18 : decode cX6_lapse 18 = .ok (.iload_n 2, 1) := by decide +kernel
theorem dX6_lapse_19 : decode cX6_lapse 19 = .ok (.iload_n 3, 1) := by decide +kernel
theorem dX6_lapse_20 : decode cX6_lapse 20 = .ok (.invokestatic 52, 3) := by decide +kernel
theorem dX6_lapse_23 : decode cX6_lapse 23 = .ok (.ifCond .eq 23, 3) := by decide +kernel
theorem dX6_lapse_26 : decode cX6_lapse 26 = .ok (.aload_n 0, 1) := by decide +kernel
theorem dX6_lapse_27 : decode cX6_lapse 27 = .ok (.iload_n 3, 1) := by decide +kernel
theorem dX6_lapse_28 : decode cX6_lapse 28 = .ok (.iconst 5, 1) := by decide +kernel
theorem dX6_lapse_29 : decode cX6_lapse 29 = .ok (.iconst 0, 1) := by decide +kernel
theorem dX6_lapse_30 : decode cX6_lapse 30 = .ok (.invokevirtual 55, 3) := by decide +kernel
theorem dX6_lapse_33 : decode cX6_lapse 33 = .ok (.aload_n 0, 1) := by decide +kernel
theorem dX6_lapse_34 : decode cX6_lapse 34 = .ok (.iload_n 3, 1) := by decide +kernel
theorem dX6_lapse_35 : decode cX6_lapse 35 = .ok (.bipush 8, 2) := by decide +kernel
theorem dX6_lapse_37 : decode cX6_lapse 37 = .ok (.aload_n 0, 1) := by decide +kernel
theorem dX6_lapse_38 : decode cX6_lapse 38 = .ok (.getfield 7, 3) := by decide +kernel
theorem dX6_lapse_41 : decode cX6_lapse 41 = .ok (.iconst 2, 1) := by decide +kernel
theorem dX6_lapse_42 : decode cX6_lapse 42 = .ok (.iaload, 1) := by decide +kernel
theorem dX6_lapse_43 : decode cX6_lapse 43 = .ok (.invokevirtual 55, 3) := by decide +kernel
theorem dX6_lapse_46 : decode cX6_lapse 46 = .ok (.iinc 3 1, 3) := by decide +kernel
theorem dX6_lapse_49 : decode cX6_lapse 49 = .ok (.goto (-41), 3) := by decide +kernel
theorem dX6_lapse_52 : decode cX6_lapse 52 = .ok (.aload_n 0, 1) := by decide +kernel
theorem dX6_lapse_53 : decode cX6_lapse 53 = .ok (.getfield 7, 3) := by decide +kernel
theorem dX6_lapse_56 : decode cX6_lapse 56 = .ok (.iconst 4, 1) := by decide +kernel
theorem dX6_lapse_57 : decode cX6_lapse 57 = .ok (.iaload, 1) := by decide +kernel
theorem dX6_lapse_58 : decode cX6_lapse 58 = .ok (.iconst 1, 1) := by decide +kernel
theorem dX6_lapse_59 : decode cX6_lapse 59 = .ok (.isub, 1) := by decide +kernel
theorem dX6_lapse_60 : decode cX6_lapse 60 = .ok (.istore_n 3, 1) := by decide +kernel
theorem dX6_lapse_61 : decode cX6_lapse 61 = .ok (.iload_n 3, 1) := by decide +kernel
theorem dX6_lapse_62 : decode cX6_lapse 62 = .ok (.ifCond .lt 47, 3) := by decide +kernel
theorem dX6_lapse_65 : decode cX6_lapse 65 = .ok (.aload_n 0, 1) := by decide +kernel
theorem dX6_lapse_66 : decode cX6_lapse 66 = .ok (.iload_n 3, 1) := by decide +kernel
theorem dX6_lapse_67 : decode cX6_lapse 67 = .ok (.iconst 3, 1) := by decide +kernel
theorem dX6_lapse_68 : decode cX6_lapse 68 = .ok (.invokevirtual 59, 3) := by decide +kernel
theorem dX6_lapse_71 : decode cX6_lapse 71 = .ok (.ifCond .ne 32, 3) := by decide +kernel
theorem dX6_lapse_74 : decode cX6_lapse 74 = .ok (.iload_n 2, 1) := by decide +kernel
theorem dX6_lapse_75 : decode cX6_lapse 75 = .ok (.aload_n 0, 1) := by decide +kernel
theorem dX6_lapse_76 : decode cX6_lapse 76 = .ok (.iload_n 3, 1) := by decide +kernel
theorem dX6_lapse_77 : decode cX6_lapse 77 = .ok (.iconst 0, 1) := by decide +kernel
theorem dX6_lapse_78 : decode cX6_lapse 78 = .ok (.invokevirtual 59, 3) := by decide +kernel
theorem dX6_lapse_81 : decode cX6_lapse 81 = .ok (.invokestatic 52, 3) := by decide +kernel
theorem dX6_lapse_84 : decode cX6_lapse 84 = .ok (.ifCond .eq 19, 3) := by decide +kernel
theorem dX6_lapse_87 : decode cX6_lapse 87 = .ok (.aload_n 0, 1) := by decide +kernel
theorem dX6_lapse_88 : decode cX6_lapse 88 = .ok (.iload_n 3, 1) := by decide +kernel
theorem dX6_lapse_89 : decode cX6_lapse 89 = .ok (.invokevirtual 62, 3) := by decide +kernel
theorem dX6_lapse_92 : decode cX6_lapse 92 = .ok (.aload_n 0, 1) := by decide +kernel
theorem dX6_lapse_93 : decode cX6_lapse 93 = .ok (.getfield 7, 3) := by decide +kernel
theorem dX6_lapse_96 : decode cX6_lapse 96 = .ok (.bipush 9, 2) := by decide +kernel
theorem dX6_lapse_98 : decode cX6_lapse 98 = .ok (.dup2, 1) := by decide +kernel
theorem dX6_lapse_99 : decode cX6_lapse 99 = .ok (.iaload, 1) := by decide +kernel
theorem dX6_lapse_100 : decode cX6_lapse 100 = .ok (.iconst 1, 1) := by decide +kernel
theorem dX6_lapse_101 : decode cX6_lapse 101 = .ok (.iadd, 1) := by decide +kernel
theorem dX6_lapse_102 : decode cX6_lapse 102 = .ok (.iastore, 1) := by decide +kernel
theorem dX6_lapse_103 : decode cX6_lapse 103 = .ok (.iinc 3 (-1), 3) := by decide +kernel
theorem dX6_lapse_106 : decode cX6_lapse 106 = .ok (.goto (-45), 3) := by decide +kernel
theorem dX6_lapse_109 : decode cX6_lapse 109 = .ok (.iload_n 2, 1) := by decide +kernel
theorem dX6_lapse_110 : decode cX6_lapse 110 = .ok (.invokestatic 66, 3) := by decide +kernel
theorem dX6_lapse_113 : decode cX6_lapse 113 = .ok (.ireturn, 1) := by decide +kernel
set_option maxRecDepth 20000 in
theorem ggX6_addRequest_X6_of : GoodIn wsX6_addRequest wsX6_of := goodIn_r _ [6, 1, 7, 8, 9, 10, 11, 12, 13, 14, 15, 16, 17] (by decide +kernel) (by decide +kernel)
set_option maxRecDepth 20000 in
theorem gX6_addRequest_X6_of : GoodIn wsX6_addRequest (wsV RX6 33 RX6 yX6_of wsX6_of) := goodIn_app (goodIn_of _ (by decide +kernel)) ggX6_addRequest_X6_of
theorem dX6_addRequest_0 : decode cX6_addRequest 0 = .ok (.bipush 127, 2) := by decide +kernel
theorem dX6_addRequest_2 : decode cX6_addRequest 2 = .ok (.bipush 6, 2) := by decide +kernel
theorem dX6_addRequest_4 : decode cX6_addRequest 4 = .ok (.aload_n 0, 1) := by decide +kernel
theorem dX6_addRequest_5 : decode cX6_addRequest 5 = .ok (.getfield 7, 3) := by decide +kernel
theorem dX6_addRequest_8 : decode cX6_addRequest 8 = .ok (.iconst 4, 1) := by decide +kernel
theorem dX6_addRequest_9 : decode cX6_addRequest 9 = .ok (.iaload, 1) := by decide +kernel
theorem dX6_addRequest_10 : decode cX6_addRequest 10 = .ok (.imul, 1) := by decide +kernel
theorem dX6_addRequest_11 : decode cX6_addRequest 11 = .ok (.iadd, 1) := by decide +kernel
theorem dX6_addRequest_12 : decode cX6_addRequest 12 = .ok (.istore 4, 2) := by decide +kernel
theorem dX6_addRequest_14 : decode cX6_addRequest 14 = .ok (.aload_n 0, 1) := by decide +kernel
theorem dX6_addRequest_15 : decode cX6_addRequest 15 = .ok (.getfield 7, 3) := by decide +kernel
theorem dX6_addRequest_18 : decode cX6_addRequest 18 = .ok (.iconst 4, 1) := by decide +kernel
theorem dX6_addRequest_19 : decode cX6_addRequest 19 = .ok (.dup2, 1) := by decide +kernel
theorem dX6_addRequest_20 : decode cX6_addRequest 20 = .ok (.iaload, 1) := by decide +kernel
theorem dX6_addRequest_21 : decode cX6_addRequest 21 = .ok (.iconst 1, 1) := by decide +kernel
theorem dX6_addRequest_22 : decode cX6_addRequest 22 = .ok (.iadd, 1) := by decide +kernel
theorem dX6_addRequest_23 : decode cX6_addRequest 23 = .ok (.iastore, 1) := by decide +kernel
theorem dX6_addRequest_24 : decode cX6_addRequest 24 = .ok (.aload_n 0, 1) := by decide +kernel
theorem dX6_addRequest_25 : decode cX6_addRequest 25 = .ok (.getfield 7, 3) := by decide +kernel
theorem dX6_addRequest_28 : decode cX6_addRequest 28 = .ok (.iload 4, 2) := by decide +kernel
theorem dX6_addRequest_30 : decode cX6_addRequest 30 = .ok (.iconst 0, 1) := by decide +kernel
theorem dX6_addRequest_31 : decode cX6_addRequest 31 = .ok (.iadd, 1) := by decide +kernel
theorem dX6_addRequest_32 : decode cX6_addRequest 32 = .ok (.iload_n 1, 1) := by decide +kernel
theorem dX6_addRequest_33 : decode cX6_addRequest 33 = .ok (.iastore, 1) := by decide +kernel
theorem dX6_addRequest_34 : decode cX6_addRequest 34 = .ok (.aload_n 0, 1) := by decide +kernel
theorem dX6_addRequest_35 : decode cX6_addRequest 35 = .ok (.getfield 7, 3) := by decide +kernel
theorem dX6_addRequest_38 : decode cX6_addRequest 38 = .ok (.iload 4, 2) := by decide +kernel
theorem dX6_addRequest_40 : decode cX6_addRequest 40 = .ok (.iconst 1, 1) := by decide +kernel
theorem dX6_addRequest_41 : decode cX6_addRequest 41 = .ok (.iadd, 1) := by decide +kernel
theorem dX6_addRequest_42 : decode cX6_addRequest 42 = .ok (.iload_n 2, 1) := by decide +kernel
theorem dX6_addRequest_43 : decode cX6_addRequest 43 = .ok (.iastore, 1) := by decide +kernel
theorem dX6_addRequest_44 : decode cX6_addRequest 44 = .ok (.aload_n 0, 1) := by decide +kernel
theorem dX6_addRequest_45 : decode cX6_addRequest 45 = .ok (.getfield 7, 3) := by decide +kernel
theorem dX6_addRequest_48 : decode cX6_addRequest 48 = .ok (.iload 4, 2) := by decide +kernel
theorem dX6_addRequest_50 : decode cX6_addRequest 50 = .ok (.iconst 2, 1) := by decide +kernel
theorem dX6_addRequest_51 : decode cX6_addRequest 51 = .ok (.iadd, 1) := by decide +kernel
theorem dX6_addRequest_52 : decode cX6_addRequest 52 = .ok (.aload_n 0, 1) := by decide +kernel
theorem dX6_addRequest_53 : decode cX6_addRequest 53 = .ok (.getfield 7, 3) := by decide +kernel
theorem dX6_addRequest_56 : decode cX6_addRequest 56 = .ok (.iconst 2, 1) := by decide +kernel
theorem dX6_addRequest_57 : decode cX6_addRequest 57 = .ok (.iaload, 1) := by decide +kernel
theorem dX6_addRequest_58 : decode cX6_addRequest 58 = .ok (.iastore, 1) := by decide +kernel
theorem dX6_addRequest_59 : decode cX6_addRequest 59 = .ok (.aload_n 0, 1) := by decide +kernel
theorem dX6_addRequest_60 : decode cX6_addRequest 60 = .ok (.getfield 7, 3) := by decide +kernel
theorem dX6_addRequest_63 : decode cX6_addRequest 63 = .ok (.iload 4, 2) := by decide +kernel
theorem dX6_addRequest_65 : decode cX6_addRequest 65 = .ok (.iconst 3, 1) := by decide +kernel
theorem dX6_addRequest_66 : decode cX6_addRequest 66 = .ok (.iadd, 1) := by decide +kernel
theorem dX6_addRequest_67 : decode cX6_addRequest 67 = .ok (.iload_n 3, 1) := by decide +kernel
theorem dX6_addRequest_68 : decode cX6_addRequest 68 = .ok (.iastore, 1) := by decide +kernel
theorem dX6_addRequest_69 : decode cX6_addRequest 69 = .ok (.aload_n 0, 1) := by decide +kernel
theorem dX6_addRequest_70 : decode cX6_addRequest 70 = .ok (.getfield 7, 3) := by decide +kernel
theorem dX6_addRequest_73 : decode cX6_addRequest 73 = .ok (.iload 4, 2) := by decide +kernel
theorem dX6_addRequest_75 : decode cX6_addRequest 75 = .ok (.iconst 4, 1) := by decide +kernel
theorem dX6_addRequest_76 : decode cX6_addRequest 76 = .ok (.iadd, 1) := by decide +kernel
theorem dX6_addRequest_77 : decode cX6_addRequest 77 = .ok (.aload_n 0, 1) := by decide +kernel
theorem dX6_addRequest_78 : decode cX6_addRequest 78 = .ok (.iload_n 1, 1) := by decide +kernel
theorem dX6_addRequest_79 : decode cX6_addRequest 79 = .ok (.iconst 4, 1) := by decide +kernel
theorem dX6_addRequest_80 : decode cX6_addRequest 80 = .ok (.invokevirtual 33, 3) := by decide +kernel
theorem dX6_addRequest_83 : decode cX6_addRequest 83 = .ok (.iastore, 1) := by decide +kernel
theorem dX6_addRequest_84 : decode cX6_addRequest 84 = .ok (.aload_n 0, 1) := by decide +kernel
theorem dX6_addRequest_85 : decode cX6_addRequest 85 = .ok (.getfield 7, 3) := by decide +kernel
theorem dX6_addRequest_88 : decode cX6_addRequest 88 = .ok (.iload 4, 2) := by decide +kernel
theorem dX6_addRequest_90 : decode cX6_addRequest 90 = .ok (.iconst 5, 1) := by decide +kernel
theorem dX6_addRequest_91 : decode cX6_addRequest 91 = .ok (.iadd, 1) := by decide +kernel
theorem dX6_addRequest_92 : decode cX6_addRequest 92 = .ok (.iconst 0, 1) := by decide +kernel
theorem dX6_addRequest_93 : decode cX6_addRequest 93 = .ok (.iastore, 1) := by decide +kernel
theorem dX6_addRequest_94 : decode cX6_addRequest 94 = .ok (.return_, 1) := by decide +kernel
set_option maxRecDepth 20000 in
theorem ggX6_holdsAbove_X6_of : GoodIn wsX6_holdsAbove wsX6_of := goodIn_r _ [5, 6, 7, 8, 9, 10, 11, 12, 13, 14, 15, 16, 17] (by decide +kernel) (by decide +kernel)
set_option maxRecDepth 20000 in
theorem gX6_holdsAbove_X6_of : GoodIn wsX6_holdsAbove (wsV RX6 33 RX6 yX6_of wsX6_of) := goodIn_app (goodIn_of _ (by decide +kernel)) ggX6_holdsAbove_X6_of
theorem dX6_holdsAbove_0 : decode cX6_holdsAbove 0 = .ok (.iconst 0, 1) := by decide +kernel
theorem dX6_holdsAbove_1 : decode cX6_holdsAbove 1 = .ok (.istore_n 3, 1) := by decide +kernel
theorem dX6_holdsAbove_2 : decode cX6_holdsAbove 2 = .ok (.aload_n 0, 1) := by decide +kernel
theorem dX6_holdsAbove_3 : decode cX6_holdsAbove 3 = .ok (.iload_n 2, 1) := by decide +kernel
theorem dX6_holdsAbove_4 : decode cX6_holdsAbove 4 = .ok (.iconst 0, 1) := by decide +kernel
theorem dX6_holdsAbove_5 : decode cX6_holdsAbove 5 = .ok (.invokevirtual 33, 3) := by decide +kernel
theorem dX6_holdsAbove_8 : decode cX6_holdsAbove 8 = .ok (.istore 4, 2) := by decide +kernel
theorem dX6_holdsAbove_10 : decode cX6_holdsAbove 10 = .ok (.iload 4, 2) := by decide +kernel
theorem dX6_holdsAbove_12 : decode cX6_holdsAbove 12 = .ok (.iconst (-1), 1) := by decide +kernel
theorem dX6_holdsAbove_13 : decode cX6_holdsAbove 13 = .ok (.if_icmp .eq 36, 3) := by decide +kernel
theorem dX6_holdsAbove_16 : decode cX6_holdsAbove 16 = .ok (.iload_n 3, 1) := by decide +kernel
theorem dX6_holdsAbove_17 : decode cX6_holdsAbove 17 = .ok (.ifCond .ne 14, 3) := by decide +kernel
theorem dX6_holdsAbove_20 : decode cX6_holdsAbove 20 = .ok (.aload_n 0, 1) := by decide +kernel
theorem dX6_holdsAbove_21 : decode cX6_holdsAbove 21 = .ok (.iload 4, 2) := by decide +kernel
theorem dX6_holdsAbove_23 : decode cX6_holdsAbove 23 = .ok (.iconst 1, 1) := by decide +kernel
theorem dX6_holdsAbove_24 : decode cX6_holdsAbove 24 = .ok (.invokevirtual 33, 3) := by decide +kernel
theorem dX6_holdsAbove_27 : decode cX6_holdsAbove 27 = .ok (.iload_n 1, 1) := by decide +kernel
theorem dX6_holdsAbove_28 : decode cX6_holdsAbove 28 = .ok (.if_icmp .ne 7, 3) := by decide +kernel
theorem dX6_holdsAbove_31 : decode cX6_holdsAbove 31 = .ok (.iconst 1, 1) := by decide +kernel
theorem dX6_holdsAbove_32 : decode cX6_holdsAbove 32 = .ok (.goto 4, 3) := by decide +kernel
theorem dX6_holdsAbove_35 : decode cX6_holdsAbove 35 = .ok (.iconst 0, 1) := by decide +kernel
theorem dX6_holdsAbove_36 : decode cX6_holdsAbove 36 = .ok (.istore_n 3, 1) := by decide +kernel
theorem dX6_holdsAbove_37 : decode cX6_holdsAbove 37 = .ok (.aload_n 0, 1) := by decide +kernel
theorem dX6_holdsAbove_38 : decode cX6_holdsAbove 38 = .ok (.iload 4, 2) := by decide +kernel
theorem dX6_holdsAbove_40 : decode cX6_holdsAbove 40 = .ok (.iconst 0, 1) := by decide +kernel
theorem dX6_holdsAbove_41 : decode cX6_holdsAbove 41 = .ok (.invokevirtual 33, 3) := by decide +kernel
theorem dX6_holdsAbove_44 : decode cX6_holdsAbove 44 = .ok (.istore 4, 2) := by decide +kernel
theorem dX6_holdsAbove_46 : decode cX6_holdsAbove 46 = .ok (.goto (-36), 3) := by decide +kernel
theorem dX6_holdsAbove_49 : decode cX6_holdsAbove 49 = .ok (.iload_n 3, 1) := by decide +kernel
theorem dX6_holdsAbove_50 : decode cX6_holdsAbove 50 = .ok (.ireturn, 1) := by decide +kernel
set_option maxRecDepth 20000 in
theorem ggX6_canApprove_X6_ofRequest : GoodIn wsX6_canApprove wsX6_ofRequest := goodIn_r _ [5, 6, 18, 19, 20, 21, 22, 23, 24, 25, 26, 27, 28] (by decide +kernel) (by decide +kernel)
set_option maxRecDepth 20000 in
theorem gX6_canApprove_X6_ofRequest : GoodIn wsX6_canApprove (wsV RX6 59 RX6 yX6_ofRequest wsX6_ofRequest) := goodIn_app (goodIn_of _ (by decide +kernel)) ggX6_canApprove_X6_ofRequest
set_option maxRecDepth 20000 in
theorem ggX6_canApprove_X6_has : GoodIn wsX6_canApprove wsX6_has := goodIn_r _ [9] (by decide +kernel) (by decide +kernel)
set_option maxRecDepth 20000 in
theorem gX6_canApprove_X6_has : GoodIn wsX6_canApprove (va_wsS RX6 52 yX6_has wsX6_has) := goodIn_app (goodIn_of _ (by decide +kernel)) ggX6_canApprove_X6_has
set_option maxRecDepth 20000 in
theorem ggX6_canApprove_X6_of : GoodIn wsX6_canApprove wsX6_of := goodIn_r _ [13, 6, 18, 19, 20, 21, 22, 23, 24, 25, 26, 27, 28] (by decide +kernel) (by decide +kernel)
set_option maxRecDepth 20000 in
theorem gX6_canApprove_X6_of : GoodIn wsX6_canApprove (wsV RX6 33 RX6 yX6_of wsX6_of) := goodIn_app (goodIn_of _ (by decide +kernel)) ggX6_canApprove_X6_of
set_option maxRecDepth 20000 in
theorem ggX6_canApprove_X6_holdsAbove : GoodIn wsX6_canApprove wsX6_holdsAbove := goodIn_r _ [17, 10, 11, 12, 4, 13, 6, 18, 19, 20, 21, 22, 23, 24, 25, 26, 27, 28] (by decide +kernel) (by decide +kernel)
set_option maxRecDepth 20000 in
theorem gX6_canApprove_X6_holdsAbove : GoodIn wsX6_canApprove (wsV RX6 69 RX6 yX6_holdsAbove wsX6_holdsAbove) := goodIn_app (goodIn_of _ (by decide +kernel)) ggX6_canApprove_X6_holdsAbove
theorem dX6_canApprove_0 : decode cX6_canApprove 0 = .ok (.aload_n 0, 1) := by decide +kernel
theorem dX6_canApprove_1 : decode cX6_canApprove 1 = .ok (.iload_n 1, 1) := by decide +kernel
theorem dX6_canApprove_2 : decode cX6_canApprove 2 = .ok (.iconst 0, 1) := by decide +kernel
theorem dX6_canApprove_3 : decode cX6_canApprove 3 = .ok (.invokevirtual 59, 3) := by decide +kernel
theorem dX6_canApprove_6 : decode cX6_canApprove 6 = .ok (.istore_n 3, 1) := by decide +kernel
theorem dX6_canApprove_7 : decode cX6_canApprove 7 = .ok (.aload_n 0, 1) := by decide +kernel
theorem dX6_canApprove_8 : decode cX6_canApprove 8 = .ok (.iload_n 1, 1) := by decide +kernel
theorem dX6_canApprove_9 : decode cX6_canApprove 9 = .ok (.iconst 5, 1) := by decide +kernel
theorem dX6_canApprove_10 : decode cX6_canApprove 10 = .ok (.invokevirtual 59, 3) := by decide +kernel
theorem dX6_canApprove_13 : decode cX6_canApprove 13 = .ok (.iload_n 2, 1) := by decide +kernel
theorem dX6_canApprove_14 : decode cX6_canApprove 14 = .ok (.invokestatic 52, 3) := by decide +kernel
theorem dX6_canApprove_17 : decode cX6_canApprove 17 = .ok (.ifCond .ne 26, 3) := by decide +kernel
theorem dX6_canApprove_20 : decode cX6_canApprove 20 = .ok (.aload_n 0, 1) := by decide +kernel
theorem dX6_canApprove_21 : decode cX6_canApprove 21 = .ok (.iload_n 3, 1) := by decide +kernel
theorem dX6_canApprove_22 : decode cX6_canApprove 22 = .ok (.iconst 1, 1) := by decide +kernel
theorem dX6_canApprove_23 : decode cX6_canApprove 23 = .ok (.invokevirtual 33, 3) := by decide +kernel
theorem dX6_canApprove_26 : decode cX6_canApprove 26 = .ok (.iload_n 2, 1) := by decide +kernel
theorem dX6_canApprove_27 : decode cX6_canApprove 27 = .ok (.if_icmp .eq 16, 3) := by decide +kernel
theorem dX6_canApprove_30 : decode cX6_canApprove 30 = .ok (.aload_n 0, 1) := by decide +kernel
theorem dX6_canApprove_31 : decode cX6_canApprove 31 = .ok (.iload_n 2, 1) := by decide +kernel
theorem dX6_canApprove_32 : decode cX6_canApprove 32 = .ok (.iload_n 3, 1) := by decide +kernel
theorem dX6_canApprove_33 : decode cX6_canApprove 33 = .ok (.invokevirtual 69, 3) := by decide +kernel
theorem dX6_canApprove_36 : decode cX6_canApprove 36 = .ok (.ifCond .eq 7, 3) := by decide +kernel
theorem dX6_canApprove_39 : decode cX6_canApprove 39 = .ok (.iconst 1, 1) := by decide +kernel
theorem dX6_canApprove_40 : decode cX6_canApprove 40 = .ok (.goto 4, 3) := by decide +kernel
theorem dX6_canApprove_43 : decode cX6_canApprove 43 = .ok (.iconst 0, 1) := by decide +kernel
theorem dX6_canApprove_44 : decode cX6_canApprove 44 = .ok (.ireturn, 1) := by decide +kernel
set_option maxRecDepth 20000 in
theorem ggX6_approversOf_X6_canApprove : GoodIn wsX6_approversOf wsX6_canApprove := goodIn_r _ [5, 6, 7, 8, 4, 9, 10, 11, 12, 13, 14, 15, 16, 17, 18, 19, 20, 21, 22, 23, 24, 25, 26, 27, 28, 29, 30, 31, 32] (by decide +kernel) (by decide +kernel)
set_option maxRecDepth 20000 in
theorem gX6_approversOf_X6_canApprove : GoodIn wsX6_approversOf (wsV RX6 72 RX6 yX6_canApprove wsX6_canApprove) := goodIn_app (goodIn_of _ (by decide +kernel)) ggX6_approversOf_X6_canApprove
theorem dX6_approversOf_0 : decode cX6_approversOf 0 = .ok (.iconst 0, 1) := by decide +kernel
theorem dX6_approversOf_1 : decode cX6_approversOf 1 = .ok (.istore_n 2, 1) := by decide +kernel
theorem dX6_approversOf_2 : decode cX6_approversOf 2 = .ok (.iconst 0, 1) := by decide +kernel
theorem dX6_approversOf_3 : decode cX6_approversOf 3 = .ok (.istore_n 3, 1) := by decide +kernel
theorem dX6_approversOf_4 : decode cX6_approversOf 4 = .ok (.iload_n 3, 1) := by decide +kernel
theorem dX6_approversOf_5 : decode cX6_approversOf 5 = .ok (.bipush 8, 2) := by decide +kernel
theorem dX6_approversOf_7 : decode cX6_approversOf 7 = .ok (.if_icmp .ge 28, 3) := by decide +kernel
theorem dX6_approversOf_10 : decode cX6_approversOf 10 = .ok (.iload_n 2, 1) := by decide +kernel
theorem dX6_approversOf_11 : decode cX6_approversOf 11 = .ok (.aload_n 0, 1) := by decide +kernel
theorem dX6_approversOf_12 : decode cX6_approversOf 12 = .ok (.iload_n 1, 1) := by decide +kernel
theorem dX6_approversOf_13 : decode cX6_approversOf 13 = .ok (.iload_n 3, 1) := by decide +kernel
theorem dX6_approversOf_14 : decode cX6_approversOf 14 = .ok (.invokevirtual 72, 3) := by decide +kernel
theorem dX6_approversOf_17 : decode cX6_approversOf 17 = .ok (.ifCond .eq 9, 3) := by decide +kernel
theorem dX6_approversOf_20 : decode cX6_approversOf 20 = .ok (.iconst 1, 1) := by decide +kernel
theorem dX6_approversOf_21 : decode cX6_approversOf 21 = .ok (.iload_n 3, 1) := by decide +kernel
theorem dX6_approversOf_22 : decode cX6_approversOf 22 = .ok (.ishl, 1) := by decide +kernel
theorem dX6_approversOf_23 : decode cX6_approversOf 23 = .ok (.goto 4, 3) := by decide +kernel
theorem dX6_approversOf_26 : decode cX6_approversOf 26 = .ok (.iconst 0, 1) := by decide +kernel
theorem dX6_approversOf_27 : decode cX6_approversOf 27 = .ok (.ior, 1) := by decide +kernel
theorem dX6_approversOf_28 : decode cX6_approversOf 28 = .ok (.istore_n 2, 1) := by decide +kernel
theorem dX6_approversOf_29 : decode cX6_approversOf 29 = .ok (.iinc 3 1, 3) := by decide +kernel
theorem dX6_approversOf_32 : decode cX6_approversOf 32 = .ok (.goto (-28), 3) := by decide +kernel
theorem dX6_approversOf_35 : decode cX6_approversOf 35 = .ok (.iload_n 2, 1) := by decide +kernel
theorem dX6_approversOf_36 : decode cX6_approversOf 36 = .ok (.ireturn, 1) := by decide +kernel
set_option maxRecDepth 20000 in
theorem ggX6_areWithin_X6_of : GoodIn wsX6_areWithin wsX6_of := goodIn_r _ [5, 6, 7, 8, 9, 10, 11, 12, 13, 14, 15, 16, 17] (by decide +kernel) (by decide +kernel)
set_option maxRecDepth 20000 in
theorem gX6_areWithin_X6_of : GoodIn wsX6_areWithin (wsV RX6 33 RX6 yX6_of wsX6_of) := goodIn_app (goodIn_of _ (by decide +kernel)) ggX6_areWithin_X6_of
theorem dX6_areWithin_0 : decode cX6_areWithin 0 = .ok (.iload_n 3, 1) := by decide +kernel
theorem dX6_areWithin_1 : decode cX6_areWithin 1 = .ok (.iconst (-1), 1) := by decide +kernel
theorem dX6_areWithin_2 : decode cX6_areWithin 2 = .ok (.if_icmp .eq 23, 3) := by decide +kernel
theorem dX6_areWithin_5 : decode cX6_areWithin 5 = .ok (.iload_n 1, 1) := by decide +kernel
theorem dX6_areWithin_6 : decode cX6_areWithin 6 = .ok (.aload_n 0, 1) := by decide +kernel
theorem dX6_areWithin_7 : decode cX6_areWithin 7 = .ok (.iload_n 3, 1) := by decide +kernel
theorem dX6_areWithin_8 : decode cX6_areWithin 8 = .ok (.iconst 2, 1) := by decide +kernel
theorem dX6_areWithin_9 : decode cX6_areWithin 9 = .ok (.invokevirtual 33, 3) := by decide +kernel
theorem dX6_areWithin_12 : decode cX6_areWithin 12 = .ok (.if_icmp .gt 17, 3) := by decide +kernel
theorem dX6_areWithin_15 : decode cX6_areWithin 15 = .ok (.iload_n 2, 1) := by decide +kernel
theorem dX6_areWithin_16 : decode cX6_areWithin 16 = .ok (.aload_n 0, 1) := by decide +kernel
theorem dX6_areWithin_17 : decode cX6_areWithin 17 = .ok (.iload_n 3, 1) := by decide +kernel
theorem dX6_areWithin_18 : decode cX6_areWithin 18 = .ok (.iconst 3, 1) := by decide +kernel
theorem dX6_areWithin_19 : decode cX6_areWithin 19 = .ok (.invokevirtual 33, 3) := by decide +kernel
theorem dX6_areWithin_22 : decode cX6_areWithin 22 = .ok (.if_icmp .gt 7, 3) := by decide +kernel
theorem dX6_areWithin_25 : decode cX6_areWithin 25 = .ok (.iconst 1, 1) := by decide +kernel
theorem dX6_areWithin_26 : decode cX6_areWithin 26 = .ok (.goto 4, 3) := by decide +kernel
theorem dX6_areWithin_29 : decode cX6_areWithin 29 = .ok (.iconst 0, 1) := by decide +kernel
theorem dX6_areWithin_30 : decode cX6_areWithin 30 = .ok (.ireturn, 1) := by decide +kernel
set_option maxRecDepth 20000 in
theorem ggX6_canGive_X6_stands : GoodIn wsX6_canGive wsX6_stands := goodIn_r _ [6, 7, 8, 9, 5, 10, 1, 19, 20, 21, 22, 23, 24, 25, 26, 27, 28, 29] (by decide +kernel) (by decide +kernel)
set_option maxRecDepth 20000 in
theorem gX6_canGive_X6_stands : GoodIn wsX6_canGive (wsV RX6 41 RX6 yX6_stands wsX6_stands) := goodIn_app (goodIn_of _ (by decide +kernel)) ggX6_canGive_X6_stands
set_option maxRecDepth 20000 in
theorem ggX6_canGive_X6_areWithin : GoodIn wsX6_canGive wsX6_areWithin := goodIn_r _ [14, 7, 8, 9, 5, 10, 1, 19, 20, 21, 22, 23, 24, 25, 26, 27, 28, 29] (by decide +kernel) (by decide +kernel)
set_option maxRecDepth 20000 in
theorem gX6_canGive_X6_areWithin : GoodIn wsX6_canGive (wsV RX6 75 RX6 yX6_areWithin wsX6_areWithin) := goodIn_app (goodIn_of _ (by decide +kernel)) ggX6_canGive_X6_areWithin
set_option maxRecDepth 20000 in
theorem ggX6_canGive_X6_chainOf : GoodIn wsX6_canGive wsX6_chainOf := goodIn_r _ [18, 7, 8, 9, 5, 10, 1, 19, 20, 21, 22, 23, 24, 25, 26, 27, 28, 29] (by decide +kernel) (by decide +kernel)
set_option maxRecDepth 20000 in
theorem gX6_canGive_X6_chainOf : GoodIn wsX6_canGive (wsV RX6 78 RX6 yX6_chainOf wsX6_chainOf) := goodIn_app (goodIn_of _ (by decide +kernel)) ggX6_canGive_X6_chainOf
theorem dX6_canGive_0 : decode cX6_canGive 0 = .ok (.aload_n 0, 1) := by decide +kernel
theorem dX6_canGive_1 : decode cX6_canGive 1 = .ok (.getfield 7, 3) := by decide +kernel
theorem dX6_canGive_4 : decode cX6_canGive 4 = .ok (.iconst 3, 1) := by decide +kernel
theorem dX6_canGive_5 : decode cX6_canGive 5 = .ok (.iaload, 1) := by decide +kernel
theorem dX6_canGive_6 : decode cX6_canGive 6 = .ok (.bipush 12, 2) := by decide +kernel
theorem dX6_canGive_8 : decode cX6_canGive 8 = .ok (.if_icmp .ge 20, 3) := by decide +kernel
theorem dX6_canGive_11 : decode cX6_canGive 11 = .ok (.iload_n 1, 1) := by decide +kernel
theorem dX6_canGive_12 : decode cX6_canGive 12 = .ok (.iconst (-1), 1) := by decide +kernel
theorem dX6_canGive_13 : decode cX6_canGive 13 = .ok (.if_icmp .eq 11, 3) := by decide +kernel
theorem dX6_canGive_16 : decode cX6_canGive 16 = .ok (.aload_n 0, 1) := by decide +kernel
theorem dX6_canGive_17 : decode cX6_canGive 17 = .ok (.iload_n 1, 1) := by decide +kernel
theorem dX6_canGive_18 : decode cX6_canGive 18 = .ok (.invokevirtual 41, 3) := by decide +kernel
theorem dX6_canGive_21 : decode cX6_canGive 21 = .ok (.ifCond .eq 7, 3) := by decide +kernel
theorem dX6_canGive_24 : decode cX6_canGive 24 = .ok (.iconst 1, 1) := by decide +kernel
theorem dX6_canGive_25 : decode cX6_canGive 25 = .ok (.goto 4, 3) := by decide +kernel
theorem dX6_canGive_28 : decode cX6_canGive 28 = .ok (.iconst 0, 1) := by decide +kernel
theorem dX6_canGive_29 : decode cX6_canGive 29 = .ok (.istore 4, 2) := by decide +kernel
theorem dX6_canGive_31 : decode cX6_canGive 31 = .ok (.iload 4, 2) := by decide +kernel
theorem dX6_canGive_33 : decode cX6_canGive 33 = .ok (.ifCond .eq 40, 3) := by decide +kernel
theorem dX6_canGive_36 : decode cX6_canGive 36 = .ok (.aload_n 0, 1) := by decide +kernel
theorem dX6_canGive_37 : decode cX6_canGive 37 = .ok (.iload_n 2, 1) := by decide +kernel
theorem dX6_canGive_38 : decode cX6_canGive 38 = .ok (.iload_n 3, 1) := by decide +kernel
theorem dX6_canGive_39 : decode cX6_canGive 39 = .ok (.iload_n 1, 1) := by decide +kernel
theorem dX6_canGive_40 : decode cX6_canGive 40 = .ok (.invokevirtual 75, 3) := by decide +kernel
theorem dX6_canGive_43 : decode cX6_canGive 43 = .ok (.ifCond .eq 30, 3) := by decide +kernel
theorem dX6_canGive_46 : decode cX6_canGive 46 = .ok (.iload_n 1, 1) := by decide +kernel
theorem dX6_canGive_47 : decode cX6_canGive 47 = .ok (.iconst (-1), 1) := by decide +kernel
theorem dX6_canGive_48 : decode cX6_canGive 48 = .ok (.if_icmp .ne 7, 3) := by decide +kernel
theorem dX6_canGive_51 : decode cX6_canGive 51 = .ok (.iconst 0, 1) := by decide +kernel
theorem dX6_canGive_52 : decode cX6_canGive 52 = .ok (.goto 8, 3) := by decide +kernel
theorem dX6_canGive_55 : decode cX6_canGive 55 = .ok (.aload_n 0, 1) := by decide +kernel
theorem dX6_canGive_56 : decode cX6_canGive 56 = .ok (.iload_n 1, 1) := by decide +kernel
theorem dX6_canGive_57 : decode cX6_canGive 57 = .ok (.invokevirtual 78, 3) := by decide +kernel
theorem dX6_canGive_60 : decode cX6_canGive 60 = .ok (.aload_n 0, 1) := by decide +kernel
theorem dX6_canGive_61 : decode cX6_canGive 61 = .ok (.getfield 7, 3) := by decide +kernel
theorem dX6_canGive_64 : decode cX6_canGive 64 = .ok (.iconst 1, 1) := by decide +kernel
theorem dX6_canGive_65 : decode cX6_canGive 65 = .ok (.iaload, 1) := by decide +kernel
theorem dX6_canGive_66 : decode cX6_canGive 66 = .ok (.if_icmp .ge 7, 3) := by decide +kernel
theorem dX6_canGive_69 : decode cX6_canGive 69 = .ok (.iconst 1, 1) := by decide +kernel
theorem dX6_canGive_70 : decode cX6_canGive 70 = .ok (.goto 4, 3) := by decide +kernel
theorem dX6_canGive_73 : decode cX6_canGive 73 = .ok (.iconst 0, 1) := by decide +kernel
theorem dX6_canGive_74 : decode cX6_canGive 74 = .ok (.ireturn, 1) := by decide +kernel
set_option maxRecDepth 20000 in
theorem ggX6_give_X6_isPerson : GoodIn wsX6_give wsX6_isPerson := goodIn_r _ [6, 7, 8, 5, 9] (by decide +kernel) (by decide +kernel)
set_option maxRecDepth 20000 in
theorem gX6_give_X6_isPerson : GoodIn wsX6_give (va_wsS RX6 81 yX6_isPerson wsX6_isPerson) := goodIn_app (goodIn_of _ (by decide +kernel)) ggX6_give_X6_isPerson
set_option maxRecDepth 20000 in
theorem ggX6_give_X6_isMoney : GoodIn wsX6_give wsX6_isMoney := goodIn_r _ [12, 7, 8, 5, 9] (by decide +kernel) (by decide +kernel)
set_option maxRecDepth 20000 in
theorem gX6_give_X6_isMoney : GoodIn wsX6_give (va_wsS RX6 84 yX6_isMoney wsX6_isMoney) := goodIn_app (goodIn_of _ (by decide +kernel)) ggX6_give_X6_isMoney
set_option maxRecDepth 20000 in
theorem ggX6_give_X6_within : GoodIn wsX6_give wsX6_within := goodIn_r _ [9] (by decide +kernel) (by decide +kernel)
set_option maxRecDepth 20000 in
theorem gX6_give_X6_within : GoodIn wsX6_give (va_wsS RX6 29 yX6_within wsX6_within) := goodIn_app (goodIn_of _ (by decide +kernel)) ggX6_give_X6_within
set_option maxRecDepth 20000 in
theorem ggX6_give_X6_isMandate : GoodIn wsX6_give wsX6_isMandate := goodIn_r _ [16, 2, 7, 8, 5, 9, 47, 48, 49, 50, 51, 52, 53, 54, 55, 56, 57] (by decide +kernel) (by decide +kernel)
set_option maxRecDepth 20000 in
theorem gX6_give_X6_isMandate : GoodIn wsX6_give (wsV RX6 87 RX6 yX6_isMandate wsX6_isMandate) := goodIn_app (goodIn_of _ (by decide +kernel)) ggX6_give_X6_isMandate
set_option maxRecDepth 20000 in
theorem ggX6_give_X6_canGive : GoodIn wsX6_give wsX6_canGive := goodIn_r _ [20, 2, 21, 22, 23, 5, 24, 25, 26, 27, 28, 29, 30, 31, 32, 33, 34, 35, 36, 47, 48, 49, 50, 51, 52, 53, 54, 55, 56, 57] (by decide +kernel) (by decide +kernel)
set_option maxRecDepth 20000 in
theorem gX6_give_X6_canGive : GoodIn wsX6_give (wsV RX6 90 RX6 yX6_canGive wsX6_canGive) := goodIn_app (goodIn_of _ (by decide +kernel)) ggX6_give_X6_canGive
set_option maxRecDepth 20000 in
theorem ggX6_give_X6_save : GoodIn wsX6_give wsX6_save := goodIn_r _ [40, 41, 42, 2, 47, 48, 49, 50, 51, 52, 53, 54, 55, 56, 57] (by decide +kernel) (by decide +kernel)
set_option maxRecDepth 20000 in
theorem gX6_give_X6_save : GoodIn wsX6_give (wsV RX6 93 RX6 yX6_save wsX6_save) := goodIn_app (goodIn_of _ (by decide +kernel)) ggX6_give_X6_save
set_option maxRecDepth 20000 in
theorem ggX6_give_X6_put : GoodIn wsX6_give wsX6_put := goodIn_r _ [46, 2, 47, 48, 49, 50, 51, 52, 53, 54, 55, 56, 57] (by decide +kernel) (by decide +kernel)
set_option maxRecDepth 20000 in
theorem gX6_give_X6_put : GoodIn wsX6_give (wsV RX6 55 RX6 yX6_put wsX6_put) := goodIn_app (goodIn_of _ (by decide +kernel)) ggX6_give_X6_put
theorem dX6_give_0 : decode cX6_give 0 = .ok (.iload_n 2, 1) := by decide +kernel
theorem dX6_give_1 : decode cX6_give 1 = .ok (.invokestatic 81, 3) := by decide +kernel
theorem dX6_give_4 : decode cX6_give 4 = .ok (.ifCond .eq 32, 3) := by decide +kernel
theorem dX6_give_7 : decode cX6_give 7 = .ok (.iload_n 3, 1) := by decide +kernel
theorem dX6_give_8 : decode cX6_give 8 = .ok (.invokestatic 84, 3) := by decide +kernel
theorem dX6_give_11 : decode cX6_give 11 = .ok (.ifCond .eq 25, 3) := by decide +kernel
theorem dX6_give_14 : decode cX6_give 14 = .ok (.iload 4, 2) := by decide +kernel
theorem dX6_give_16 : decode cX6_give 16 = .ok (.invokestatic 84, 3) := by decide +kernel
theorem dX6_give_19 : decode cX6_give 19 = .ok (.ifCond .eq 17, 3) := by decide +kernel
theorem dX6_give_22 : decode cX6_give 22 = .ok (.iload 5, 2) := by decide +kernel
theorem dX6_give_24 : decode cX6_give 24 = .ok (.iconst 0, 1) := by decide +kernel
theorem dX6_give_25 : decode cX6_give 25 = .ok (.iconst 3, 1) := by decide +kernel
theorem dX6_give_26 : decode cX6_give 26 = .ok (.invokestatic 29, 3) := by decide +kernel
theorem dX6_give_29 : decode cX6_give 29 = .ok (.ifCond .eq 7, 3) := by decide +kernel
theorem dX6_give_32 : decode cX6_give 32 = .ok (.iconst 1, 1) := by decide +kernel
theorem dX6_give_33 : decode cX6_give 33 = .ok (.goto 4, 3) := by decide +kernel
theorem dX6_give_36 : decode cX6_give 36 = .ok (.iconst 0, 1) := by decide +kernel
theorem dX6_give_37 : decode cX6_give 37 = .ok (.istore 6, 2) := by decide +kernel
theorem dX6_give_39 : decode cX6_give 39 = .ok (.aload_n 0, 1) := by decide +kernel
theorem dX6_give_40 : decode cX6_give 40 = .ok (.iload_n 1, 1) := by decide +kernel
theorem dX6_give_41 : decode cX6_give 41 = .ok (.iconst (-1), 1) := by decide +kernel
theorem dX6_give_42 : decode cX6_give 42 = .ok (.if_icmp .eq 15, 3) := by decide +kernel
theorem dX6_give_45 : decode cX6_give 45 = .ok (.aload_n 0, 1) := by decide +kernel
theorem dX6_give_46 : decode cX6_give 46 = .ok (.iload_n 1, 1) := by decide +kernel
theorem dX6_give_47 : decode cX6_give 47 = .ok (.invokevirtual 87, 3) := by decide +kernel
theorem dX6_give_50 : decode cX6_give 50 = .ok (.ifCond .ne 7, 3) := by decide +kernel
theorem dX6_give_53 : decode cX6_give 53 = .ok (.iconst 1, 1) := by decide +kernel
theorem dX6_give_54 : decode cX6_give 54 = .ok (.goto 28, 3) := by decide +kernel
theorem dX6_give_57 : decode cX6_give 57 = .ok (.iload 6, 2) := by decide +kernel
theorem dX6_give_59 : decode cX6_give 59 = .ok (.ifCond .ne 7, 3) := by decide +kernel
theorem dX6_give_62 : decode cX6_give 62 = .ok (.iconst 2, 1) := by decide +kernel
theorem dX6_give_63 : decode cX6_give 63 = .ok (.goto 19, 3) := by decide +kernel
theorem dX6_give_66 : decode cX6_give 66 = .ok (.aload_n 0, 1) := by decide +kernel
theorem dX6_give_67 : decode cX6_give 67 = .ok (.iload_n 1, 1) := by decide +kernel
theorem dX6_give_68 : decode cX6_give 68 = .ok (.iload_n 3, 1) := by decide +kernel
theorem dX6_give_69 : decode cX6_give 69 = .ok (.iload 4, 2) := by decide +kernel
theorem dX6_give_71 : decode cX6_give 71 = .ok (.invokevirtual 90, 3) := by decide +kernel
theorem dX6_give_74 : decode cX6_give 74 = .ok (.ifCond .eq 7, 3) := by decide +kernel
theorem dX6_give_77 : decode cX6_give 77 = .ok (.iconst 0, 1) := by decide +kernel
theorem dX6_give_78 : decode cX6_give 78 = .ok (.goto 4, 3) := by decide +kernel
theorem dX6_give_81 : decode cX6_give 81 = .ok (.iconst 3, 1) := by decide +kernel
theorem dX6_give_82 : decode cX6_give 82 = .ok (.putfield 22, 3) := by decide +kernel
theorem dX6_give_85 : decode cX6_give 85 = .ok (.aload_n 0, 1) := by decide +kernel
theorem dX6_give_86 : decode cX6_give 86 = .ok (.getfield 22, 3) := by decide +kernel
theorem dX6_give_89 : decode cX6_give 89 = .ok (.ifCond .le 5, 3) := by decide +kernel
theorem dX6_give_92 : decode cX6_give 92 = .ok (.iconst 0, 1) := by decide +kernel
theorem dX6_give_93 : decode cX6_give 93 = .ok (.ireturn, 1) := by decide +kernel
theorem dX6_give_94 : decode cX6_give 94 = .ok (.aload_n 0, 1) := by decide +kernel
theorem dX6_give_95 : decode cX6_give 95 = .ok (.invokevirtual 93, 3) := by decide +kernel
theorem dX6_give_98 : decode cX6_give 98 = .ok (.aload_n 0, 1) := by decide +kernel
theorem dX6_give_99 : decode cX6_give 99 = .ok (.getfield 7, 3) := by decide +kernel
theorem dX6_give_102 : decode cX6_give 102 = .ok (.iconst 3, 1) := by decide +kernel
theorem dX6_give_103 : decode cX6_give 103 = .ok (.iaload, 1) := by decide +kernel
theorem dX6_give_104 : decode cX6_give 104 = .ok (.istore 7, 2) := by decide +kernel
theorem dX6_give_106 : decode cX6_give 106 = .ok (.aload_n 0, 1) := by decide +kernel
theorem dX6_give_107 : decode cX6_give 107 = .ok (.getfield 7, 3) := by decide +kernel
theorem dX6_give_110 : decode cX6_give 110 = .ok (.iconst 3, 1) := by decide +kernel
theorem dX6_give_111 : decode cX6_give 111 = .ok (.dup2, 1) := by decide +kernel
theorem dX6_give_112 : decode cX6_give 112 = .ok (.iaload, 1) := by decide +kernel
theorem dX6_give_113 : decode cX6_give 113 = .ok (.iconst 1, 1) := by decide +kernel
theorem dX6_give_114 : decode cX6_give 114 = .ok (.iadd, 1) := by decide +kernel
theorem dX6_give_115 : decode cX6_give 115 = .ok (.iastore, 1) := by decide +kernel
theorem dX6_give_116 : decode cX6_give 116 = .ok (.aload_n 0, 1) := by decide +kernel
theorem dX6_give_117 : decode cX6_give 117 = .ok (.iload 7, 2) := by decide +kernel
theorem dX6_give_119 : decode cX6_give 119 = .ok (.iconst 0, 1) := by decide +kernel
theorem dX6_give_120 : decode cX6_give 120 = .ok (.iload_n 1, 1) := by decide +kernel
theorem dX6_give_121 : decode cX6_give 121 = .ok (.invokevirtual 55, 3) := by decide +kernel
theorem dX6_give_124 : decode cX6_give 124 = .ok (.aload_n 0, 1) := by decide +kernel
theorem dX6_give_125 : decode cX6_give 125 = .ok (.iload 7, 2) := by decide +kernel
theorem dX6_give_127 : decode cX6_give 127 = .ok (.iconst 1, 1) := by decide +kernel
theorem dX6_give_128 : decode cX6_give 128 = .ok (.iload_n 2, 1) := by decide +kernel
theorem dX6_give_129 : decode cX6_give 129 = .ok (.invokevirtual 55, 3) := by decide +kernel
theorem dX6_give_132 : decode cX6_give 132 = .ok (.aload_n 0, 1) := by decide +kernel
theorem dX6_give_133 : decode cX6_give 133 = .ok (.iload 7, 2) := by decide +kernel
theorem dX6_give_135 : decode cX6_give 135 = .ok (.iconst 2, 1) := by decide +kernel
theorem dX6_give_136 : decode cX6_give 136 = .ok (.iload_n 3, 1) := by decide +kernel
theorem dX6_give_137 : decode cX6_give 137 = .ok (.invokevirtual 55, 3) := by decide +kernel
theorem dX6_give_140 : decode cX6_give 140 = .ok (.aload_n 0, 1) := by decide +kernel
theorem dX6_give_141 : decode cX6_give 141 = .ok (.iload 7, 2) := by decide +kernel
theorem dX6_give_143 : decode cX6_give 143 = .ok (.iconst 3, 1) := by decide +kernel
theorem dX6_give_144 : decode cX6_give 144 = .ok (.iload 4, 2) := by decide +kernel
theorem dX6_give_146 : decode cX6_give 146 = .ok (.invokevirtual 55, 3) := by decide +kernel
theorem dX6_give_149 : decode cX6_give 149 = .ok (.aload_n 0, 1) := by decide +kernel
theorem dX6_give_150 : decode cX6_give 150 = .ok (.iload 7, 2) := by decide +kernel
theorem dX6_give_152 : decode cX6_give 152 = .ok (.iconst 4, 1) := by decide +kernel
theorem dX6_give_153 : decode cX6_give 153 = .ok (.iload 5, 2) := by decide +kernel
theorem dX6_give_155 : decode cX6_give 155 = .ok (.invokevirtual 55, 3) := by decide +kernel
theorem dX6_give_158 : decode cX6_give 158 = .ok (.aload_n 0, 1) := by decide +kernel
theorem dX6_give_159 : decode cX6_give 159 = .ok (.iload 7, 2) := by decide +kernel
theorem dX6_give_161 : decode cX6_give 161 = .ok (.iconst 5, 1) := by decide +kernel
theorem dX6_give_162 : decode cX6_give 162 = .ok (.iconst 1, 1) := by decide +kernel
theorem dX6_give_163 : decode cX6_give 163 = .ok (.invokevirtual 55, 3) := by decide +kernel
theorem dX6_give_166 : decode cX6_give 166 = .ok (.aload_n 0, 1) := by decide +kernel
theorem dX6_give_167 : decode cX6_give 167 = .ok (.iload 7, 2) := by decide +kernel
theorem dX6_give_169 : decode cX6_give 169 = .ok (.bipush 6, 2) := by decide +kernel
theorem dX6_give_171 : decode cX6_give 171 = .ok (.iconst 0, 1) := by decide +kernel
theorem dX6_give_172 : decode cX6_give 172 = .ok (.invokevirtual 55, 3) := by decide +kernel
theorem dX6_give_175 : decode cX6_give 175 = .ok (.aload_n 0, 1) := by decide +kernel
theorem dX6_give_176 : decode cX6_give 176 = .ok (.iload 7, 2) := by decide +kernel
theorem dX6_give_178 : decode cX6_give 178 = .ok (.bipush 7, 2) := by decide +kernel
theorem dX6_give_180 : decode cX6_give 180 = .ok (.iconst 0, 1) := by decide +kernel
theorem dX6_give_181 : decode cX6_give 181 = .ok (.invokevirtual 55, 3) := by decide +kernel
theorem dX6_give_184 : decode cX6_give 184 = .ok (.aload_n 0, 1) := by decide +kernel
theorem dX6_give_185 : decode cX6_give 185 = .ok (.iload 7, 2) := by decide +kernel
theorem dX6_give_187 : decode cX6_give 187 = .ok (.bipush 8, 2) := by decide +kernel
theorem dX6_give_189 : decode cX6_give 189 = .ok (.iconst (-1), 1) := by decide +kernel
theorem dX6_give_190 : decode cX6_give 190 = .ok (.invokevirtual 55, 3) := by decide +kernel
theorem dX6_give_193 : decode cX6_give 193 = .ok (.iload 7, 2) := by decide +kernel
theorem dX6_give_195 : decode cX6_give 195 = .ok (.ireturn, 1) := by decide +kernel
set_option maxRecDepth 20000 in
theorem ggX6_withdraw_X6_isMandate : GoodIn wsX6_withdraw wsX6_isMandate := goodIn_r _ [6, 7, 8, 9, 5, 10, 55, 56, 57, 58, 59, 60, 61, 62, 63, 64, 65] (by decide +kernel) (by decide +kernel)
set_option maxRecDepth 20000 in
theorem gX6_withdraw_X6_isMandate : GoodIn wsX6_withdraw (wsV RX6 87 RX6 yX6_isMandate wsX6_isMandate) := goodIn_app (goodIn_of _ (by decide +kernel)) ggX6_withdraw_X6_isMandate
set_option maxRecDepth 20000 in
theorem ggX6_withdraw_X6_stands : GoodIn wsX6_withdraw wsX6_stands := goodIn_r _ [14, 15, 16, 17, 5, 18, 7, 55, 56, 57, 58, 59, 60, 61, 62, 63, 64, 65] (by decide +kernel) (by decide +kernel)
set_option maxRecDepth 20000 in
theorem gX6_withdraw_X6_stands : GoodIn wsX6_withdraw (wsV RX6 41 RX6 yX6_stands wsX6_stands) := goodIn_app (goodIn_of _ (by decide +kernel)) ggX6_withdraw_X6_stands
set_option maxRecDepth 20000 in
theorem ggX6_withdraw_X6_save : GoodIn wsX6_withdraw wsX6_save := goodIn_r _ [22, 23, 24, 7, 55, 56, 57, 58, 59, 60, 61, 62, 63, 64, 65] (by decide +kernel) (by decide +kernel)
set_option maxRecDepth 20000 in
theorem gX6_withdraw_X6_save : GoodIn wsX6_withdraw (wsV RX6 93 RX6 yX6_save wsX6_save) := goodIn_app (goodIn_of _ (by decide +kernel)) ggX6_withdraw_X6_save
set_option maxRecDepth 20000 in
theorem ggX6_withdraw_X6_lapse : GoodIn wsX6_withdraw wsX6_lapse := goodIn_r _ [28, 7, 29, 30, 31, 5, 32, 11, 12, 13, 14, 15, 16, 17, 18, 33, 34, 35, 36, 37, 38, 39, 40, 41, 42, 43, 44, 45, 46, 47, 48, 49, 50, 51, 52, 53, 54, 55, 56, 57, 58, 59, 60, 61, 62, 63, 64, 65] (by decide +kernel) (by decide +kernel)
set_option maxRecDepth 20000 in
theorem gX6_withdraw_X6_lapse : GoodIn wsX6_withdraw (wsV RX6 96 RX6 yX6_lapse wsX6_lapse) := goodIn_app (goodIn_of _ (by decide +kernel)) ggX6_withdraw_X6_lapse
theorem dX6_withdraw_0 : decode cX6_withdraw 0 = .ok (.aload_n 0, 1) := by decide +kernel
theorem dX6_withdraw_1 : decode cX6_withdraw 1 = .ok (.aload_n 0, 1) := by decide +kernel
theorem dX6_withdraw_2 : decode cX6_withdraw 2 = .ok (.iload_n 1, 1) := by decide +kernel
theorem dX6_withdraw_3 : decode cX6_withdraw 3 = .ok (.invokevirtual 87, 3) := by decide +kernel
theorem dX6_withdraw_6 : decode cX6_withdraw 6 = .ok (.ifCond .ne 7, 3) := by decide +kernel
theorem dX6_withdraw_9 : decode cX6_withdraw 9 = .ok (.iconst 1, 1) := by decide +kernel
theorem dX6_withdraw_10 : decode cX6_withdraw 10 = .ok (.goto 16, 3) := by decide +kernel
theorem dX6_withdraw_13 : decode cX6_withdraw 13 = .ok (.aload_n 0, 1) := by decide +kernel
theorem dX6_withdraw_14 : decode cX6_withdraw 14 = .ok (.iload_n 1, 1) := by decide +kernel
theorem dX6_withdraw_15 : decode cX6_withdraw 15 = .ok (.invokevirtual 41, 3) := by decide +kernel
theorem dX6_withdraw_18 : decode cX6_withdraw 18 = .ok (.ifCond .eq 7, 3) := by decide +kernel
theorem dX6_withdraw_21 : decode cX6_withdraw 21 = .ok (.iconst 0, 1) := by decide +kernel
theorem dX6_withdraw_22 : decode cX6_withdraw 22 = .ok (.goto 4, 3) := by decide +kernel
theorem dX6_withdraw_25 : decode cX6_withdraw 25 = .ok (.iconst 2, 1) := by decide +kernel
theorem dX6_withdraw_26 : decode cX6_withdraw 26 = .ok (.putfield 22, 3) := by decide +kernel
theorem dX6_withdraw_29 : decode cX6_withdraw 29 = .ok (.aload_n 0, 1) := by decide +kernel
theorem dX6_withdraw_30 : decode cX6_withdraw 30 = .ok (.getfield 22, 3) := by decide +kernel
theorem dX6_withdraw_33 : decode cX6_withdraw 33 = .ok (.ifCond .le 5, 3) := by decide +kernel
theorem dX6_withdraw_36 : decode cX6_withdraw 36 = .ok (.iconst 0, 1) := by decide +kernel
theorem dX6_withdraw_37 : decode cX6_withdraw 37 = .ok (.ireturn, 1) := by decide +kernel
theorem dX6_withdraw_38 : decode cX6_withdraw 38 = .ok (.aload_n 0, 1) := by decide +kernel
theorem dX6_withdraw_39 : decode cX6_withdraw 39 = .ok (.invokevirtual 93, 3) := by decide +kernel
theorem dX6_withdraw_42 : decode cX6_withdraw 42 = .ok (.aload_n 0, 1) := by decide +kernel
theorem dX6_withdraw_43 : decode cX6_withdraw 43 = .ok (.iload_n 1, 1) := by decide +kernel
theorem dX6_withdraw_44 : decode cX6_withdraw 44 = .ok (.invokevirtual 96, 3) := by decide +kernel
theorem dX6_withdraw_47 : decode cX6_withdraw 47 = .ok (.ireturn, 1) := by decide +kernel
set_option maxRecDepth 20000 in
theorem ggX6_canLimit_X6_stands : GoodIn wsX6_canLimit wsX6_stands := goodIn_r _ [6, 7, 8, 9, 5, 10, 1, 15, 16, 17, 18, 19, 20, 21, 22, 23, 24, 25] (by decide +kernel) (by decide +kernel)
set_option maxRecDepth 20000 in
theorem gX6_canLimit_X6_stands : GoodIn wsX6_canLimit (wsV RX6 41 RX6 yX6_stands wsX6_stands) := goodIn_app (goodIn_of _ (by decide +kernel)) ggX6_canLimit_X6_stands
set_option maxRecDepth 20000 in
theorem ggX6_canLimit_X6_of : GoodIn wsX6_canLimit wsX6_of := goodIn_r _ [10, 1, 15, 16, 17, 18, 19, 20, 21, 22, 23, 24, 25] (by decide +kernel) (by decide +kernel)
set_option maxRecDepth 20000 in
theorem gX6_canLimit_X6_of : GoodIn wsX6_canLimit (wsV RX6 33 RX6 yX6_of wsX6_of) := goodIn_app (goodIn_of _ (by decide +kernel)) ggX6_canLimit_X6_of
set_option maxRecDepth 20000 in
theorem ggX6_canLimit_X6_areWithin : GoodIn wsX6_canLimit wsX6_areWithin := goodIn_r _ [14, 7, 8, 9, 5, 10, 1, 15, 16, 17, 18, 19, 20, 21, 22, 23, 24, 25] (by decide +kernel) (by decide +kernel)
set_option maxRecDepth 20000 in
theorem gX6_canLimit_X6_areWithin : GoodIn wsX6_canLimit (wsV RX6 75 RX6 yX6_areWithin wsX6_areWithin) := goodIn_app (goodIn_of _ (by decide +kernel)) ggX6_canLimit_X6_areWithin
theorem dX6_canLimit_0 : decode cX6_canLimit 0 = .ok (.aload_n 0, 1) := by decide +kernel
theorem dX6_canLimit_1 : decode cX6_canLimit 1 = .ok (.iload_n 1, 1) := by decide +kernel
theorem dX6_canLimit_2 : decode cX6_canLimit 2 = .ok (.invokevirtual 41, 3) := by decide +kernel
theorem dX6_canLimit_5 : decode cX6_canLimit 5 = .ok (.ifCond .eq 22, 3) := by decide +kernel
theorem dX6_canLimit_8 : decode cX6_canLimit 8 = .ok (.aload_n 0, 1) := by decide +kernel
theorem dX6_canLimit_9 : decode cX6_canLimit 9 = .ok (.iload_n 2, 1) := by decide +kernel
theorem dX6_canLimit_10 : decode cX6_canLimit 10 = .ok (.iload_n 3, 1) := by decide +kernel
theorem dX6_canLimit_11 : decode cX6_canLimit 11 = .ok (.aload_n 0, 1) := by decide +kernel
theorem dX6_canLimit_12 : decode cX6_canLimit 12 = .ok (.iload_n 1, 1) := by decide +kernel
theorem dX6_canLimit_13 : decode cX6_canLimit 13 = .ok (.iconst 0, 1) := by decide +kernel
theorem dX6_canLimit_14 : decode cX6_canLimit 14 = .ok (.invokevirtual 33, 3) := by decide +kernel
theorem dX6_canLimit_17 : decode cX6_canLimit 17 = .ok (.invokevirtual 75, 3) := by decide +kernel
theorem dX6_canLimit_20 : decode cX6_canLimit 20 = .ok (.ifCond .eq 7, 3) := by decide +kernel
theorem dX6_canLimit_23 : decode cX6_canLimit 23 = .ok (.iconst 1, 1) := by decide +kernel
theorem dX6_canLimit_24 : decode cX6_canLimit 24 = .ok (.goto 4, 3) := by decide +kernel
theorem dX6_canLimit_27 : decode cX6_canLimit 27 = .ok (.iconst 0, 1) := by decide +kernel
theorem dX6_canLimit_28 : decode cX6_canLimit 28 = .ok (.istore 4, 2) := by decide +kernel
theorem dX6_canLimit_30 : decode cX6_canLimit 30 = .ok (.iconst 0, 1) := by decide +kernel
theorem dX6_canLimit_31 : decode cX6_canLimit 31 = .ok (.istore 5, 2) := by decide +kernel
theorem dX6_canLimit_33 : decode cX6_canLimit 33 = .ok (.iload 5, 2) := by decide +kernel
theorem dX6_canLimit_35 : decode cX6_canLimit 35 = .ok (.aload_n 0, 1) := by decide +kernel
theorem dX6_canLimit_36 : decode cX6_canLimit 36 = .ok (.getfield 7, 3) := by decide +kernel
theorem dX6_canLimit_39 : decode cX6_canLimit 39 = .ok (.iconst 3, 1) := by decide +kernel
theorem dX6_canLimit_40 : decode cX6_canLimit 40 = .ok (.iaload, 1) := by decide +kernel
theorem dX6_canLimit_41 : decode cX6_canLimit 41 = .ok (.if_icmp .ge 75, 3) := by decide +kernel
theorem dX6_canLimit_44 : decode cX6_canLimit 44 = .ok (.aload_n 0, 1) := by decide +kernel
theorem dX6_canLimit_45 : decode cX6_canLimit 45 = .ok (.iload 5, 2) := by decide +kernel
theorem dX6_canLimit_47 : decode cX6_canLimit 47 = .ok (.invokevirtual 41, 3) := by decide +kernel
theorem dX6_canLimit_50 : decode cX6_canLimit 50 = .ok (.ifCond .eq 18, 3) := by decide +kernel
theorem dX6_canLimit_53 : decode cX6_canLimit 53 = .ok (.aload_n 0, 1) := by decide +kernel
theorem dX6_canLimit_54 : decode cX6_canLimit 54 = .ok (.iload 5, 2) := by decide +kernel
theorem dX6_canLimit_56 : decode cX6_canLimit 56 = .ok (.iconst 0, 1) := by decide +kernel
theorem dX6_canLimit_57 : decode cX6_canLimit 57 = .ok (.invokevirtual 33, 3) := by decide +kernel
theorem dX6_canLimit_60 : decode cX6_canLimit 60 = .ok (.iload_n 1, 1) := by decide +kernel
theorem dX6_canLimit_61 : decode cX6_canLimit 61 = .ok (.if_icmp .ne 7, 3) := by decide +kernel
theorem dX6_canLimit_64 : decode cX6_canLimit 64 = .ok (.iconst 1, 1) := by decide +kernel
theorem dX6_canLimit_65 : decode cX6_canLimit 65 = .ok (.goto 4, 3) := by decide +kernel
theorem dX6_canLimit_68 : decode cX6_canLimit 68 = .ok (.iconst 0, 1) := by decide +kernel
theorem dX6_canLimit_69 : decode cX6_canLimit 69 = .ok (.istore 6, 2) := by decide +kernel
theorem dX6_canLimit_71 : decode cX6_canLimit 71 = .ok (.iload 4, 2) := by decide +kernel
theorem dX6_canLimit_73 : decode cX6_canLimit 73 = .ok (.ifCond .eq 34, 3) := by decide +kernel
theorem dX6_canLimit_76 : decode cX6_canLimit 76 = .ok (.iload 6, 2) := by decide +kernel
theorem dX6_canLimit_78 : decode cX6_canLimit 78 = .ok (.ifCond .eq 25, 3) := by decide +kernel
theorem dX6_canLimit_81 : decode cX6_canLimit 81 = .ok (.aload_n 0, 1) := by decide +kernel
theorem dX6_canLimit_82 : decode cX6_canLimit 82 = .ok (.iload 5, 2) := by decide +kernel
theorem dX6_canLimit_84 : decode cX6_canLimit 84 = .ok (.iconst 2, 1) := by decide +kernel
theorem dX6_canLimit_85 : decode cX6_canLimit 85 = .ok (.invokevirtual 33, 3) := by decide +kernel
theorem dX6_canLimit_88 : decode cX6_canLimit 88 = .ok (.iload_n 2, 1) := by decide +kernel
theorem dX6_canLimit_89 : decode cX6_canLimit 89 = .ok (.if_icmp .gt 18, 3) := by decide +kernel
theorem dX6_canLimit_92 : decode cX6_canLimit 92 = .ok (.aload_n 0, 1) := by decide +kernel
theorem dX6_canLimit_93 : decode cX6_canLimit 93 = .ok (.iload 5, 2) := by decide +kernel
theorem dX6_canLimit_95 : decode cX6_canLimit 95 = .ok (.iconst 3, 1) := by decide +kernel
theorem dX6_canLimit_96 : decode cX6_canLimit 96 = .ok (.invokevirtual 33, 3) := by decide +kernel
theorem dX6_canLimit_99 : decode cX6_canLimit 99 = .ok (.iload_n 3, 1) := by decide +kernel
theorem dX6_canLimit_100 : decode cX6_canLimit 100 = .ok (.if_icmp .gt 7, 3) := by decide +kernel
theorem dX6_canLimit_103 : decode cX6_canLimit 103 = .ok (.iconst 1, 1) := by decide +kernel
theorem dX6_canLimit_104 : decode cX6_canLimit 104 = .ok (.goto 4, 3) := by decide +kernel
theorem dX6_canLimit_107 : decode cX6_canLimit 107 = .ok (.iconst 0, 1) := by decide +kernel
theorem dX6_canLimit_108 : decode cX6_canLimit 108 = .ok (.istore 4, 2) := by decide +kernel
theorem dX6_canLimit_110 : decode cX6_canLimit 110 = .ok (.iinc 5 1, 3) := by decide +kernel
theorem dX6_canLimit_113 : decode cX6_canLimit 113 = .ok (.goto (-80), 3) := by decide +kernel
theorem dX6_canLimit_116 : decode cX6_canLimit 116 = .ok (.iload 4, 2) := by decide +kernel
theorem dX6_canLimit_118 : decode cX6_canLimit 118 = .ok (.ireturn, 1) := by decide +kernel
set_option maxRecDepth 20000 in
theorem ggX6_limit_X6_isMandate : GoodIn wsX6_limit wsX6_isMandate := goodIn_r _ [6, 7, 8, 9, 5, 10, 40, 41, 42, 43, 44, 45, 46, 47, 48, 49, 50] (by decide +kernel) (by decide +kernel)
set_option maxRecDepth 20000 in
theorem gX6_limit_X6_isMandate : GoodIn wsX6_limit (wsV RX6 87 RX6 yX6_isMandate wsX6_isMandate) := goodIn_app (goodIn_of _ (by decide +kernel)) ggX6_limit_X6_isMandate
set_option maxRecDepth 20000 in
theorem ggX6_limit_X6_isMoney : GoodIn wsX6_limit wsX6_isMoney := goodIn_r _ [13, 8, 9, 5, 10] (by decide +kernel) (by decide +kernel)
set_option maxRecDepth 20000 in
theorem gX6_limit_X6_isMoney : GoodIn wsX6_limit (va_wsS RX6 84 yX6_isMoney wsX6_isMoney) := goodIn_app (goodIn_of _ (by decide +kernel)) ggX6_limit_X6_isMoney
set_option maxRecDepth 20000 in
theorem ggX6_limit_X6_canLimit : GoodIn wsX6_limit wsX6_canLimit := goodIn_r _ [17, 7, 18, 19, 20, 5, 21, 22, 23, 24, 25, 26, 27, 28, 29, 40, 41, 42, 43, 44, 45, 46, 47, 48, 49, 50] (by decide +kernel) (by decide +kernel)
set_option maxRecDepth 20000 in
theorem gX6_limit_X6_canLimit : GoodIn wsX6_limit (wsV RX6 99 RX6 yX6_canLimit wsX6_canLimit) := goodIn_app (goodIn_of _ (by decide +kernel)) ggX6_limit_X6_canLimit
set_option maxRecDepth 20000 in
theorem ggX6_limit_X6_save : GoodIn wsX6_limit wsX6_save := goodIn_r _ [33, 34, 35, 7, 40, 41, 42, 43, 44, 45, 46, 47, 48, 49, 50] (by decide +kernel) (by decide +kernel)
set_option maxRecDepth 20000 in
theorem gX6_limit_X6_save : GoodIn wsX6_limit (wsV RX6 93 RX6 yX6_save wsX6_save) := goodIn_app (goodIn_of _ (by decide +kernel)) ggX6_limit_X6_save
set_option maxRecDepth 20000 in
theorem ggX6_limit_X6_of : GoodIn wsX6_limit wsX6_of := goodIn_r _ [25, 7, 40, 41, 42, 43, 44, 45, 46, 47, 48, 49, 50] (by decide +kernel) (by decide +kernel)
set_option maxRecDepth 20000 in
theorem gX6_limit_X6_of : GoodIn wsX6_limit (wsV RX6 33 RX6 yX6_of wsX6_of) := goodIn_app (goodIn_of _ (by decide +kernel)) ggX6_limit_X6_of
set_option maxRecDepth 20000 in
theorem ggX6_limit_X6_put : GoodIn wsX6_limit wsX6_put := goodIn_r _ [39, 7, 40, 41, 42, 43, 44, 45, 46, 47, 48, 49, 50] (by decide +kernel) (by decide +kernel)
set_option maxRecDepth 20000 in
theorem gX6_limit_X6_put : GoodIn wsX6_limit (wsV RX6 55 RX6 yX6_put wsX6_put) := goodIn_app (goodIn_of _ (by decide +kernel)) ggX6_limit_X6_put
theorem dX6_limit_0 : decode cX6_limit 0 = .ok (.aload_n 0, 1) := by decide +kernel
theorem dX6_limit_1 : decode cX6_limit 1 = .ok (.aload_n 0, 1) := by decide +kernel
theorem dX6_limit_2 : decode cX6_limit 2 = .ok (.iload_n 1, 1) := by decide +kernel
theorem dX6_limit_3 : decode cX6_limit 3 = .ok (.invokevirtual 87, 3) := by decide +kernel
theorem dX6_limit_6 : decode cX6_limit 6 = .ok (.ifCond .ne 7, 3) := by decide +kernel
theorem dX6_limit_9 : decode cX6_limit 9 = .ok (.iconst 1, 1) := by decide +kernel
theorem dX6_limit_10 : decode cX6_limit 10 = .ok (.goto 36, 3) := by decide +kernel
theorem dX6_limit_13 : decode cX6_limit 13 = .ok (.iload_n 2, 1) := by decide +kernel
theorem dX6_limit_14 : decode cX6_limit 14 = .ok (.invokestatic 84, 3) := by decide +kernel
theorem dX6_limit_17 : decode cX6_limit 17 = .ok (.ifCond .eq 10, 3) := by decide +kernel
theorem dX6_limit_20 : decode cX6_limit 20 = .ok (.iload_n 3, 1) := by decide +kernel
theorem dX6_limit_21 : decode cX6_limit 21 = .ok (.invokestatic 84, 3) := by decide +kernel
theorem dX6_limit_24 : decode cX6_limit 24 = .ok (.ifCond .ne 7, 3) := by decide +kernel
theorem dX6_limit_27 : decode cX6_limit 27 = .ok (.iconst 2, 1) := by decide +kernel
theorem dX6_limit_28 : decode cX6_limit 28 = .ok (.goto 18, 3) := by decide +kernel
theorem dX6_limit_31 : decode cX6_limit 31 = .ok (.aload_n 0, 1) := by decide +kernel
theorem dX6_limit_32 : decode cX6_limit 32 = .ok (.iload_n 1, 1) := by decide +kernel
theorem dX6_limit_33 : decode cX6_limit 33 = .ok (.iload_n 2, 1) := by decide +kernel
theorem dX6_limit_34 : decode cX6_limit 34 = .ok (.iload_n 3, 1) := by decide +kernel
theorem dX6_limit_35 : decode cX6_limit 35 = .ok (.invokevirtual 99, 3) := by decide +kernel
theorem dX6_limit_38 : decode cX6_limit 38 = .ok (.ifCond .eq 7, 3) := by decide +kernel
theorem dX6_limit_41 : decode cX6_limit 41 = .ok (.iconst 0, 1) := by decide +kernel
theorem dX6_limit_42 : decode cX6_limit 42 = .ok (.goto 4, 3) := by decide +kernel
theorem dX6_limit_45 : decode cX6_limit 45 = .ok (.iconst 3, 1) := by decide +kernel
theorem dX6_limit_46 : decode cX6_limit 46 = .ok (.putfield 22, 3) := by decide +kernel
theorem dX6_limit_49 : decode cX6_limit 49 = .ok (.aload_n 0, 1) := by decide +kernel
theorem dX6_limit_50 : decode cX6_limit 50 = .ok (.getfield 22, 3) := by decide +kernel
theorem dX6_limit_53 : decode cX6_limit 53 = .ok (.ifCond .le 5, 3) := by decide +kernel
theorem dX6_limit_56 : decode cX6_limit 56 = .ok (.iconst 0, 1) := by decide +kernel
theorem dX6_limit_57 : decode cX6_limit 57 = .ok (.ireturn, 1) := by decide +kernel
theorem dX6_limit_58 : decode cX6_limit 58 = .ok (.aload_n 0, 1) := by decide +kernel
theorem dX6_limit_59 : decode cX6_limit 59 = .ok (.invokevirtual 93, 3) := by decide +kernel
theorem dX6_limit_62 : decode cX6_limit 62 = .ok (.aload_n 0, 1) := by decide +kernel
theorem dX6_limit_63 : decode cX6_limit 63 = .ok (.iload_n 1, 1) := by decide +kernel
theorem dX6_limit_64 : decode cX6_limit 64 = .ok (.iconst 3, 1) := by decide +kernel
theorem dX6_limit_65 : decode cX6_limit 65 = .ok (.invokevirtual 33, 3) := by decide +kernel
theorem dX6_limit_68 : decode cX6_limit 68 = .ok (.istore 4, 2) := by decide +kernel
theorem dX6_limit_70 : decode cX6_limit 70 = .ok (.aload_n 0, 1) := by decide +kernel
theorem dX6_limit_71 : decode cX6_limit 71 = .ok (.iload_n 1, 1) := by decide +kernel
theorem dX6_limit_72 : decode cX6_limit 72 = .ok (.iconst 2, 1) := by decide +kernel
theorem dX6_limit_73 : decode cX6_limit 73 = .ok (.iload_n 2, 1) := by decide +kernel
theorem dX6_limit_74 : decode cX6_limit 74 = .ok (.invokevirtual 55, 3) := by decide +kernel
theorem dX6_limit_77 : decode cX6_limit 77 = .ok (.aload_n 0, 1) := by decide +kernel
theorem dX6_limit_78 : decode cX6_limit 78 = .ok (.iload_n 1, 1) := by decide +kernel
theorem dX6_limit_79 : decode cX6_limit 79 = .ok (.iconst 3, 1) := by decide +kernel
theorem dX6_limit_80 : decode cX6_limit 80 = .ok (.iload_n 3, 1) := by decide +kernel
theorem dX6_limit_81 : decode cX6_limit 81 = .ok (.invokevirtual 55, 3) := by decide +kernel
theorem dX6_limit_84 : decode cX6_limit 84 = .ok (.iload 4, 2) := by decide +kernel
theorem dX6_limit_86 : decode cX6_limit 86 = .ok (.ireturn, 1) := by decide +kernel
set_option maxRecDepth 20000 in
theorem ggX6_need_X6_isMandate : GoodIn wsX6_need wsX6_isMandate := goodIn_r _ [6, 7, 8, 9, 5, 10, 29, 30, 31, 32, 33, 34, 35, 36, 37, 38, 39] (by decide +kernel) (by decide +kernel)
set_option maxRecDepth 20000 in
theorem gX6_need_X6_isMandate : GoodIn wsX6_need (wsV RX6 87 RX6 yX6_isMandate wsX6_isMandate) := goodIn_app (goodIn_of _ (by decide +kernel)) ggX6_need_X6_isMandate
set_option maxRecDepth 20000 in
theorem ggX6_need_X6_within : GoodIn wsX6_need wsX6_within := goodIn_r _ [10] (by decide +kernel) (by decide +kernel)
set_option maxRecDepth 20000 in
theorem gX6_need_X6_within : GoodIn wsX6_need (va_wsS RX6 29 yX6_within wsX6_within) := goodIn_app (goodIn_of _ (by decide +kernel)) ggX6_need_X6_within
set_option maxRecDepth 20000 in
theorem ggX6_need_X6_stands : GoodIn wsX6_need wsX6_stands := goodIn_r _ [14, 15, 16, 17, 5, 18, 7, 29, 30, 31, 32, 33, 34, 35, 36, 37, 38, 39] (by decide +kernel) (by decide +kernel)
set_option maxRecDepth 20000 in
theorem gX6_need_X6_stands : GoodIn wsX6_need (wsV RX6 41 RX6 yX6_stands wsX6_stands) := goodIn_app (goodIn_of _ (by decide +kernel)) ggX6_need_X6_stands
set_option maxRecDepth 20000 in
theorem ggX6_need_X6_save : GoodIn wsX6_need wsX6_save := goodIn_r _ [22, 23, 24, 7, 29, 30, 31, 32, 33, 34, 35, 36, 37, 38, 39] (by decide +kernel) (by decide +kernel)
set_option maxRecDepth 20000 in
theorem gX6_need_X6_save : GoodIn wsX6_need (wsV RX6 93 RX6 yX6_save wsX6_save) := goodIn_app (goodIn_of _ (by decide +kernel)) ggX6_need_X6_save
set_option maxRecDepth 20000 in
theorem ggX6_need_X6_of : GoodIn wsX6_need wsX6_of := goodIn_r _ [18, 7, 29, 30, 31, 32, 33, 34, 35, 36, 37, 38, 39] (by decide +kernel) (by decide +kernel)
set_option maxRecDepth 20000 in
theorem gX6_need_X6_of : GoodIn wsX6_need (wsV RX6 33 RX6 yX6_of wsX6_of) := goodIn_app (goodIn_of _ (by decide +kernel)) ggX6_need_X6_of
set_option maxRecDepth 20000 in
theorem ggX6_need_X6_put : GoodIn wsX6_need wsX6_put := goodIn_r _ [28, 7, 29, 30, 31, 32, 33, 34, 35, 36, 37, 38, 39] (by decide +kernel) (by decide +kernel)
set_option maxRecDepth 20000 in
theorem gX6_need_X6_put : GoodIn wsX6_need (wsV RX6 55 RX6 yX6_put wsX6_put) := goodIn_app (goodIn_of _ (by decide +kernel)) ggX6_need_X6_put
theorem dX6_need_0 : decode cX6_need 0 = .ok (.aload_n 0, 1) := by decide +kernel
theorem dX6_need_1 : decode cX6_need 1 = .ok (.aload_n 0, 1) := by decide +kernel
theorem dX6_need_2 : decode cX6_need 2 = .ok (.iload_n 1, 1) := by decide +kernel
theorem dX6_need_3 : decode cX6_need 3 = .ok (.invokevirtual 87, 3) := by decide +kernel
theorem dX6_need_6 : decode cX6_need 6 = .ok (.ifCond .ne 7, 3) := by decide +kernel
theorem dX6_need_9 : decode cX6_need 9 = .ok (.iconst 1, 1) := by decide +kernel
theorem dX6_need_10 : decode cX6_need 10 = .ok (.goto 29, 3) := by decide +kernel
theorem dX6_need_13 : decode cX6_need 13 = .ok (.iload_n 2, 1) := by decide +kernel
theorem dX6_need_14 : decode cX6_need 14 = .ok (.iconst 0, 1) := by decide +kernel
theorem dX6_need_15 : decode cX6_need 15 = .ok (.iconst 3, 1) := by decide +kernel
theorem dX6_need_16 : decode cX6_need 16 = .ok (.invokestatic 29, 3) := by decide +kernel
theorem dX6_need_19 : decode cX6_need 19 = .ok (.ifCond .ne 7, 3) := by decide +kernel
theorem dX6_need_22 : decode cX6_need 22 = .ok (.iconst 2, 1) := by decide +kernel
theorem dX6_need_23 : decode cX6_need 23 = .ok (.goto 16, 3) := by decide +kernel
theorem dX6_need_26 : decode cX6_need 26 = .ok (.aload_n 0, 1) := by decide +kernel
theorem dX6_need_27 : decode cX6_need 27 = .ok (.iload_n 1, 1) := by decide +kernel
theorem dX6_need_28 : decode cX6_need 28 = .ok (.invokevirtual 41, 3) := by decide +kernel
theorem dX6_need_31 : decode cX6_need 31 = .ok (.ifCond .eq 7, 3) := by decide +kernel
theorem dX6_need_34 : decode cX6_need 34 = .ok (.iconst 0, 1) := by decide +kernel
theorem dX6_need_35 : decode cX6_need 35 = .ok (.goto 4, 3) := by decide +kernel
theorem dX6_need_38 : decode cX6_need 38 = .ok (.iconst 3, 1) := by decide +kernel
theorem dX6_need_39 : decode cX6_need 39 = .ok (.putfield 22, 3) := by decide +kernel
theorem dX6_need_42 : decode cX6_need 42 = .ok (.aload_n 0, 1) := by decide +kernel
theorem dX6_need_43 : decode cX6_need 43 = .ok (.getfield 22, 3) := by decide +kernel
theorem dX6_need_46 : decode cX6_need 46 = .ok (.ifCond .le 5, 3) := by decide +kernel
theorem dX6_need_49 : decode cX6_need 49 = .ok (.iconst 0, 1) := by decide +kernel
theorem dX6_need_50 : decode cX6_need 50 = .ok (.ireturn, 1) := by decide +kernel
theorem dX6_need_51 : decode cX6_need 51 = .ok (.aload_n 0, 1) := by decide +kernel
theorem dX6_need_52 : decode cX6_need 52 = .ok (.invokevirtual 93, 3) := by decide +kernel
theorem dX6_need_55 : decode cX6_need 55 = .ok (.aload_n 0, 1) := by decide +kernel
theorem dX6_need_56 : decode cX6_need 56 = .ok (.iload_n 1, 1) := by decide +kernel
theorem dX6_need_57 : decode cX6_need 57 = .ok (.iconst 4, 1) := by decide +kernel
theorem dX6_need_58 : decode cX6_need 58 = .ok (.invokevirtual 33, 3) := by decide +kernel
theorem dX6_need_61 : decode cX6_need 61 = .ok (.istore_n 3, 1) := by decide +kernel
theorem dX6_need_62 : decode cX6_need 62 = .ok (.aload_n 0, 1) := by decide +kernel
theorem dX6_need_63 : decode cX6_need 63 = .ok (.iload_n 1, 1) := by decide +kernel
theorem dX6_need_64 : decode cX6_need 64 = .ok (.iconst 4, 1) := by decide +kernel
theorem dX6_need_65 : decode cX6_need 65 = .ok (.iload_n 2, 1) := by decide +kernel
theorem dX6_need_66 : decode cX6_need 66 = .ok (.invokevirtual 55, 3) := by decide +kernel
theorem dX6_need_69 : decode cX6_need 69 = .ok (.iload_n 3, 1) := by decide +kernel
theorem dX6_need_70 : decode cX6_need 70 = .ok (.ireturn, 1) := by decide +kernel
set_option maxRecDepth 20000 in
theorem ggX6_reason_X6_stands : GoodIn wsX6_reason wsX6_stands := goodIn_r _ [5, 6, 7, 8, 4, 9, 10, 19, 20, 21, 22, 23, 24, 25, 26, 27, 28, 29] (by decide +kernel) (by decide +kernel)
set_option maxRecDepth 20000 in
theorem gX6_reason_X6_stands : GoodIn wsX6_reason (wsV RX6 41 RX6 yX6_stands wsX6_stands) := goodIn_app (goodIn_of _ (by decide +kernel)) ggX6_reason_X6_stands
set_option maxRecDepth 20000 in
theorem ggX6_reason_X6_of : GoodIn wsX6_reason wsX6_of := goodIn_r _ [9, 10, 19, 20, 21, 22, 23, 24, 25, 26, 27, 28, 29] (by decide +kernel) (by decide +kernel)
set_option maxRecDepth 20000 in
theorem gX6_reason_X6_of : GoodIn wsX6_reason (wsV RX6 33 RX6 yX6_of wsX6_of) := goodIn_app (goodIn_of _ (by decide +kernel)) ggX6_reason_X6_of
set_option maxRecDepth 20000 in
theorem ggX6_reason_X6_narrowestOf : GoodIn wsX6_reason wsX6_narrowestOf := goodIn_r _ [14, 15, 16, 17, 4, 18, 6, 7, 8, 9, 10, 19, 20, 21, 22, 23, 24, 25, 26, 27, 28, 29] (by decide +kernel) (by decide +kernel)
set_option maxRecDepth 20000 in
theorem gX6_reason_X6_narrowestOf : GoodIn wsX6_reason (wsV RX6 102 RX6 yX6_narrowestOf wsX6_narrowestOf) := goodIn_app (goodIn_of _ (by decide +kernel)) ggX6_reason_X6_narrowestOf
set_option maxRecDepth 20000 in
theorem ggX6_reason_X6_gapOf : GoodIn wsX6_reason wsX6_gapOf := goodIn_r _ [18, 6, 7, 8, 4, 9, 10, 19, 20, 21, 22, 23, 24, 25, 26, 27, 28, 29] (by decide +kernel) (by decide +kernel)
set_option maxRecDepth 20000 in
theorem gX6_reason_X6_gapOf : GoodIn wsX6_reason (wsV RX6 37 RX6 yX6_gapOf wsX6_gapOf) := goodIn_app (goodIn_of _ (by decide +kernel)) ggX6_reason_X6_gapOf
theorem dX6_reason_0 : decode cX6_reason 0 = .ok (.aload_n 0, 1) := by decide +kernel
theorem dX6_reason_1 : decode cX6_reason 1 = .ok (.iload_n 1, 1) := by decide +kernel
theorem dX6_reason_2 : decode cX6_reason 2 = .ok (.invokevirtual 41, 3) := by decide +kernel
theorem dX6_reason_5 : decode cX6_reason 5 = .ok (.ifCond .ne 5, 3) := by decide +kernel
theorem dX6_reason_8 : decode cX6_reason 8 = .ok (.iconst 1, 1) := by decide +kernel
theorem dX6_reason_9 : decode cX6_reason 9 = .ok (.ireturn, 1) := by decide +kernel
theorem dX6_reason_10 : decode cX6_reason 10 = .ok (.iload_n 2, 1) := by decide +kernel
theorem dX6_reason_11 : decode cX6_reason 11 = .ok (.aload_n 0, 1) := by decide +kernel
theorem dX6_reason_12 : decode cX6_reason 12 = .ok (.iload_n 1, 1) := by decide +kernel
theorem dX6_reason_13 : decode cX6_reason 13 = .ok (.iconst 2, 1) := by decide +kernel
theorem dX6_reason_14 : decode cX6_reason 14 = .ok (.invokevirtual 33, 3) := by decide +kernel
theorem dX6_reason_17 : decode cX6_reason 17 = .ok (.if_icmp .le 7, 3) := by decide +kernel
theorem dX6_reason_20 : decode cX6_reason 20 = .ok (.iconst 2, 1) := by decide +kernel
theorem dX6_reason_21 : decode cX6_reason 21 = .ok (.goto 21, 3) := by decide +kernel
theorem dX6_reason_24 : decode cX6_reason 24 = .ok (.aload_n 0, 1) := by decide +kernel
theorem dX6_reason_25 : decode cX6_reason 25 = .ok (.aload_n 0, 1) := by decide +kernel
theorem dX6_reason_26 : decode cX6_reason 26 = .ok (.iload_n 1, 1) := by decide +kernel
theorem dX6_reason_27 : decode cX6_reason 27 = .ok (.invokevirtual 102, 3) := by decide +kernel
theorem dX6_reason_30 : decode cX6_reason 30 = .ok (.invokevirtual 37, 3) := by decide +kernel
theorem dX6_reason_33 : decode cX6_reason 33 = .ok (.iload_n 2, 1) := by decide +kernel
theorem dX6_reason_34 : decode cX6_reason 34 = .ok (.if_icmp .ge 7, 3) := by decide +kernel
theorem dX6_reason_37 : decode cX6_reason 37 = .ok (.iconst 3, 1) := by decide +kernel
theorem dX6_reason_38 : decode cX6_reason 38 = .ok (.goto 4, 3) := by decide +kernel
theorem dX6_reason_41 : decode cX6_reason 41 = .ok (.iconst 0, 1) := by decide +kernel
theorem dX6_reason_42 : decode cX6_reason 42 = .ok (.ireturn, 1) := by decide +kernel
set_option maxRecDepth 20000 in
theorem ggX6_make_X6_of : GoodIn wsX6_make wsX6_of := goodIn_r _ [6, 1, 11, 12, 13, 14, 15, 16, 17, 18, 19, 20, 21] (by decide +kernel) (by decide +kernel)
set_option maxRecDepth 20000 in
theorem gX6_make_X6_of : GoodIn wsX6_make (wsV RX6 33 RX6 yX6_of wsX6_of) := goodIn_app (goodIn_of _ (by decide +kernel)) ggX6_make_X6_of
set_option maxRecDepth 20000 in
theorem ggX6_make_X6_put : GoodIn wsX6_make wsX6_put := goodIn_r _ [10, 1, 11, 12, 13, 14, 15, 16, 17, 18, 19, 20, 21] (by decide +kernel) (by decide +kernel)
set_option maxRecDepth 20000 in
theorem gX6_make_X6_put : GoodIn wsX6_make (wsV RX6 55 RX6 yX6_put wsX6_put) := goodIn_app (goodIn_of _ (by decide +kernel)) ggX6_make_X6_put
theorem dX6_make_0 : decode cX6_make 0 = .ok (.iload_n 1, 1) := by decide +kernel
theorem dX6_make_1 : decode cX6_make 1 = .ok (.istore_n 3, 1) := by decide +kernel
theorem dX6_make_2 : decode cX6_make 2 = .ok (.iload_n 3, 1) := by decide +kernel
theorem dX6_make_3 : decode cX6_make 3 = .ok (.iconst (-1), 1) := by decide +kernel
theorem dX6_make_4 : decode cX6_make 4 = .ok (.if_icmp .eq 29, 3) := by decide +kernel
theorem dX6_make_7 : decode cX6_make 7 = .ok (.aload_n 0, 1) := by decide +kernel
theorem dX6_make_8 : decode cX6_make 8 = .ok (.iload_n 3, 1) := by decide +kernel
theorem dX6_make_9 : decode cX6_make 9 = .ok (.bipush 6, 2) := by decide +kernel
theorem dX6_make_11 : decode cX6_make 11 = .ok (.aload_n 0, 1) := by decide +kernel
theorem dX6_make_12 : decode cX6_make 12 = .ok (.iload_n 3, 1) := by decide +kernel
theorem dX6_make_13 : decode cX6_make 13 = .ok (.bipush 6, 2) := by decide +kernel
theorem dX6_make_15 : decode cX6_make 15 = .ok (.invokevirtual 33, 3) := by decide +kernel
theorem dX6_make_18 : decode cX6_make 18 = .ok (.iload_n 2, 1) := by decide +kernel
theorem dX6_make_19 : decode cX6_make 19 = .ok (.iadd, 1) := by decide +kernel
theorem dX6_make_20 : decode cX6_make 20 = .ok (.invokevirtual 55, 3) := by decide +kernel
theorem dX6_make_23 : decode cX6_make 23 = .ok (.aload_n 0, 1) := by decide +kernel
theorem dX6_make_24 : decode cX6_make 24 = .ok (.iload_n 3, 1) := by decide +kernel
theorem dX6_make_25 : decode cX6_make 25 = .ok (.iconst 0, 1) := by decide +kernel
theorem dX6_make_26 : decode cX6_make 26 = .ok (.invokevirtual 33, 3) := by decide +kernel
theorem dX6_make_29 : decode cX6_make 29 = .ok (.istore_n 3, 1) := by decide +kernel
theorem dX6_make_30 : decode cX6_make 30 = .ok (.goto (-28), 3) := by decide +kernel
theorem dX6_make_33 : decode cX6_make 33 = .ok (.aload_n 0, 1) := by decide +kernel
theorem dX6_make_34 : decode cX6_make 34 = .ok (.iload_n 1, 1) := by decide +kernel
theorem dX6_make_35 : decode cX6_make 35 = .ok (.bipush 7, 2) := by decide +kernel
theorem dX6_make_37 : decode cX6_make 37 = .ok (.aload_n 0, 1) := by decide +kernel
theorem dX6_make_38 : decode cX6_make 38 = .ok (.iload_n 1, 1) := by decide +kernel
theorem dX6_make_39 : decode cX6_make 39 = .ok (.bipush 7, 2) := by decide +kernel
theorem dX6_make_41 : decode cX6_make 41 = .ok (.invokevirtual 33, 3) := by decide +kernel
theorem dX6_make_44 : decode cX6_make 44 = .ok (.iload_n 2, 1) := by decide +kernel
theorem dX6_make_45 : decode cX6_make 45 = .ok (.iadd, 1) := by decide +kernel
theorem dX6_make_46 : decode cX6_make 46 = .ok (.invokevirtual 55, 3) := by decide +kernel
theorem dX6_make_49 : decode cX6_make 49 = .ok (.aload_n 0, 1) := by decide +kernel
theorem dX6_make_50 : decode cX6_make 50 = .ok (.getfield 7, 3) := by decide +kernel
theorem dX6_make_53 : decode cX6_make 53 = .ok (.iconst 5, 1) := by decide +kernel
theorem dX6_make_54 : decode cX6_make 54 = .ok (.dup2, 1) := by decide +kernel
theorem dX6_make_55 : decode cX6_make 55 = .ok (.iaload, 1) := by decide +kernel
theorem dX6_make_56 : decode cX6_make 56 = .ok (.iload_n 2, 1) := by decide +kernel
theorem dX6_make_57 : decode cX6_make 57 = .ok (.iadd, 1) := by decide +kernel
theorem dX6_make_58 : decode cX6_make 58 = .ok (.iastore, 1) := by decide +kernel
theorem dX6_make_59 : decode cX6_make 59 = .ok (.aload_n 0, 1) := by decide +kernel
theorem dX6_make_60 : decode cX6_make 60 = .ok (.getfield 7, 3) := by decide +kernel
theorem dX6_make_63 : decode cX6_make 63 = .ok (.bipush 6, 2) := by decide +kernel
theorem dX6_make_65 : decode cX6_make 65 = .ok (.dup2, 1) := by decide +kernel
theorem dX6_make_66 : decode cX6_make 66 = .ok (.iaload, 1) := by decide +kernel
theorem dX6_make_67 : decode cX6_make 67 = .ok (.iload_n 2, 1) := by decide +kernel
theorem dX6_make_68 : decode cX6_make 68 = .ok (.iadd, 1) := by decide +kernel
theorem dX6_make_69 : decode cX6_make 69 = .ok (.iastore, 1) := by decide +kernel
theorem dX6_make_70 : decode cX6_make 70 = .ok (.aload_n 0, 1) := by decide +kernel
theorem dX6_make_71 : decode cX6_make 71 = .ok (.getfield 7, 3) := by decide +kernel
theorem dX6_make_74 : decode cX6_make 74 = .ok (.bipush 7, 2) := by decide +kernel
theorem dX6_make_76 : decode cX6_make 76 = .ok (.dup2, 1) := by decide +kernel
theorem dX6_make_77 : decode cX6_make 77 = .ok (.iaload, 1) := by decide +kernel
theorem dX6_make_78 : decode cX6_make 78 = .ok (.iconst 1, 1) := by decide +kernel
theorem dX6_make_79 : decode cX6_make 79 = .ok (.iadd, 1) := by decide +kernel
theorem dX6_make_80 : decode cX6_make 80 = .ok (.iastore, 1) := by decide +kernel
theorem dX6_make_81 : decode cX6_make 81 = .ok (.return_, 1) := by decide +kernel
set_option maxRecDepth 20000 in
theorem ggX6_canAsk_X6_of : GoodIn wsX6_canAsk wsX6_of := goodIn_r _ [6, 1, 23, 24, 25, 26, 27, 28, 29, 30, 31, 32, 33] (by decide +kernel) (by decide +kernel)
set_option maxRecDepth 20000 in
theorem gX6_canAsk_X6_of : GoodIn wsX6_canAsk (wsV RX6 33 RX6 yX6_of wsX6_of) := goodIn_app (goodIn_of _ (by decide +kernel)) ggX6_canAsk_X6_of
set_option maxRecDepth 20000 in
theorem ggX6_canAsk_X6_reason : GoodIn wsX6_canAsk wsX6_reason := goodIn_r _ [10, 11, 12, 13, 5, 14, 2, 3, 4, 6, 1, 15, 16, 17, 18, 19, 20, 21, 22, 23, 24, 25, 26, 27, 28, 29, 30, 31, 32, 33] (by decide +kernel) (by decide +kernel)
set_option maxRecDepth 20000 in
theorem gX6_canAsk_X6_reason : GoodIn wsX6_canAsk (wsV RX6 105 RX6 yX6_reason wsX6_reason) := goodIn_app (goodIn_of _ (by decide +kernel)) ggX6_canAsk_X6_reason
theorem dX6_canAsk_0 : decode cX6_canAsk 0 = .ok (.aload_n 0, 1) := by decide +kernel
theorem dX6_canAsk_1 : decode cX6_canAsk 1 = .ok (.iload_n 1, 1) := by decide +kernel
theorem dX6_canAsk_2 : decode cX6_canAsk 2 = .ok (.iconst 4, 1) := by decide +kernel
theorem dX6_canAsk_3 : decode cX6_canAsk 3 = .ok (.invokevirtual 33, 3) := by decide +kernel
theorem dX6_canAsk_6 : decode cX6_canAsk 6 = .ok (.ifCond .eq 14, 3) := by decide +kernel
theorem dX6_canAsk_9 : decode cX6_canAsk 9 = .ok (.aload_n 0, 1) := by decide +kernel
theorem dX6_canAsk_10 : decode cX6_canAsk 10 = .ok (.getfield 7, 3) := by decide +kernel
theorem dX6_canAsk_13 : decode cX6_canAsk 13 = .ok (.iconst 4, 1) := by decide +kernel
theorem dX6_canAsk_14 : decode cX6_canAsk 14 = .ok (.iaload, 1) := by decide +kernel
theorem dX6_canAsk_15 : decode cX6_canAsk 15 = .ok (.bipush 6, 2) := by decide +kernel
theorem dX6_canAsk_17 : decode cX6_canAsk 17 = .ok (.if_icmp .ge 7, 3) := by decide +kernel
theorem dX6_canAsk_20 : decode cX6_canAsk 20 = .ok (.iconst 1, 1) := by decide +kernel
theorem dX6_canAsk_21 : decode cX6_canAsk 21 = .ok (.goto 4, 3) := by decide +kernel
theorem dX6_canAsk_24 : decode cX6_canAsk 24 = .ok (.iconst 0, 1) := by decide +kernel
theorem dX6_canAsk_25 : decode cX6_canAsk 25 = .ok (.istore 4, 2) := by decide +kernel
theorem dX6_canAsk_27 : decode cX6_canAsk 27 = .ok (.aload_n 0, 1) := by decide +kernel
theorem dX6_canAsk_28 : decode cX6_canAsk 28 = .ok (.iload_n 1, 1) := by decide +kernel
theorem dX6_canAsk_29 : decode cX6_canAsk 29 = .ok (.iload_n 2, 1) := by decide +kernel
theorem dX6_canAsk_30 : decode cX6_canAsk 30 = .ok (.invokevirtual 105, 3) := by decide +kernel
theorem dX6_canAsk_33 : decode cX6_canAsk 33 = .ok (.ifCond .ne 28, 3) := by decide +kernel
theorem dX6_canAsk_36 : decode cX6_canAsk 36 = .ok (.iload 4, 2) := by decide +kernel
theorem dX6_canAsk_38 : decode cX6_canAsk 38 = .ok (.ifCond .eq 23, 3) := by decide +kernel
theorem dX6_canAsk_41 : decode cX6_canAsk 41 = .ok (.iload_n 3, 1) := by decide +kernel
theorem dX6_canAsk_42 : decode cX6_canAsk 42 = .ok (.ifCond .eq 15, 3) := by decide +kernel
theorem dX6_canAsk_45 : decode cX6_canAsk 45 = .ok (.iload_n 2, 1) := by decide +kernel
theorem dX6_canAsk_46 : decode cX6_canAsk 46 = .ok (.aload_n 0, 1) := by decide +kernel
theorem dX6_canAsk_47 : decode cX6_canAsk 47 = .ok (.iload_n 1, 1) := by decide +kernel
theorem dX6_canAsk_48 : decode cX6_canAsk 48 = .ok (.iconst 2, 1) := by decide +kernel
theorem dX6_canAsk_49 : decode cX6_canAsk 49 = .ok (.invokevirtual 33, 3) := by decide +kernel
theorem dX6_canAsk_52 : decode cX6_canAsk 52 = .ok (.iconst 2, 1) := by decide +kernel
theorem dX6_canAsk_53 : decode cX6_canAsk 53 = .ok (.idiv, 1) := by decide +kernel
theorem dX6_canAsk_54 : decode cX6_canAsk 54 = .ok (.if_icmp .gt 7, 3) := by decide +kernel
theorem dX6_canAsk_57 : decode cX6_canAsk 57 = .ok (.iconst 1, 1) := by decide +kernel
theorem dX6_canAsk_58 : decode cX6_canAsk 58 = .ok (.goto 4, 3) := by decide +kernel
theorem dX6_canAsk_61 : decode cX6_canAsk 61 = .ok (.iconst 0, 1) := by decide +kernel
theorem dX6_canAsk_62 : decode cX6_canAsk 62 = .ok (.ireturn, 1) := by decide +kernel
set_option maxRecDepth 20000 in
theorem ggX6_asks_X6_of : GoodIn wsX6_asks wsX6_of := goodIn_r _ [6, 1, 19, 20, 21, 22, 23, 24, 25, 26, 27, 28, 29] (by decide +kernel) (by decide +kernel)
set_option maxRecDepth 20000 in
theorem gX6_asks_X6_of : GoodIn wsX6_asks (wsV RX6 33 RX6 yX6_of wsX6_of) := goodIn_app (goodIn_of _ (by decide +kernel)) ggX6_asks_X6_of
set_option maxRecDepth 20000 in
theorem ggX6_asks_X6_make : GoodIn wsX6_asks wsX6_make := goodIn_r _ [10, 1, 2, 3, 4, 5, 6, 11, 12, 13, 14, 19, 20, 21, 22, 23, 24, 25, 26, 27, 28, 29] (by decide +kernel) (by decide +kernel)
set_option maxRecDepth 20000 in
theorem gX6_asks_X6_make : GoodIn wsX6_asks (wsV RX6 108 RX6 yX6_make wsX6_make) := goodIn_app (goodIn_of _ (by decide +kernel)) ggX6_asks_X6_make
set_option maxRecDepth 20000 in
theorem ggX6_asks_X6_addRequest : GoodIn wsX6_asks wsX6_addRequest := goodIn_r _ [18, 1, 2, 3, 4, 5, 6, 19, 20, 21, 22, 23, 24, 25, 26, 27, 28, 29] (by decide +kernel) (by decide +kernel)
set_option maxRecDepth 20000 in
theorem gX6_asks_X6_addRequest : GoodIn wsX6_asks (wsV RX6 112 RX6 yX6_addRequest wsX6_addRequest) := goodIn_app (goodIn_of _ (by decide +kernel)) ggX6_asks_X6_addRequest
theorem dX6_asks_0 : decode cX6_asks 0 = .ok (.aload_n 0, 1) := by decide +kernel
theorem dX6_asks_1 : decode cX6_asks 1 = .ok (.iload_n 1, 1) := by decide +kernel
theorem dX6_asks_2 : decode cX6_asks 2 = .ok (.iconst 4, 1) := by decide +kernel
theorem dX6_asks_3 : decode cX6_asks 3 = .ok (.invokevirtual 33, 3) := by decide +kernel
theorem dX6_asks_6 : decode cX6_asks 6 = .ok (.ifCond .le 7, 3) := by decide +kernel
theorem dX6_asks_9 : decode cX6_asks 9 = .ok (.iconst 1, 1) := by decide +kernel
theorem dX6_asks_10 : decode cX6_asks 10 = .ok (.goto 4, 3) := by decide +kernel
theorem dX6_asks_13 : decode cX6_asks 13 = .ok (.iconst 0, 1) := by decide +kernel
theorem dX6_asks_14 : decode cX6_asks 14 = .ok (.istore 4, 2) := by decide +kernel
theorem dX6_asks_16 : decode cX6_asks 16 = .ok (.iload_n 3, 1) := by decide +kernel
theorem dX6_asks_17 : decode cX6_asks 17 = .ok (.ifCond .ne 8, 3) := by decide +kernel
theorem dX6_asks_20 : decode cX6_asks 20 = .ok (.iload 4, 2) := by decide +kernel
theorem dX6_asks_22 : decode cX6_asks 22 = .ok (.ifCond .ne 28, 3) := by decide +kernel
theorem dX6_asks_25 : decode cX6_asks 25 = .ok (.aload_n 0, 1) := by decide +kernel
theorem dX6_asks_26 : decode cX6_asks 26 = .ok (.iload_n 1, 1) := by decide +kernel
theorem dX6_asks_27 : decode cX6_asks 27 = .ok (.iload_n 2, 1) := by decide +kernel
theorem dX6_asks_28 : decode cX6_asks 28 = .ok (.invokevirtual 108, 3) := by decide +kernel
theorem dX6_asks_31 : decode cX6_asks 31 = .ok (.aload_n 0, 1) := by decide +kernel
theorem dX6_asks_32 : decode cX6_asks 32 = .ok (.getfield 7, 3) := by decide +kernel
theorem dX6_asks_35 : decode cX6_asks 35 = .ok (.bipush 8, 2) := by decide +kernel
theorem dX6_asks_37 : decode cX6_asks 37 = .ok (.dup2, 1) := by decide +kernel
theorem dX6_asks_38 : decode cX6_asks 38 = .ok (.iaload, 1) := by decide +kernel
theorem dX6_asks_39 : decode cX6_asks 39 = .ok (.iload_n 3, 1) := by decide +kernel
theorem dX6_asks_40 : decode cX6_asks 40 = .ok (.ifCond .eq 7, 3) := by decide +kernel
theorem dX6_asks_43 : decode cX6_asks 43 = .ok (.iconst 1, 1) := by decide +kernel
theorem dX6_asks_44 : decode cX6_asks 44 = .ok (.goto 4, 3) := by decide +kernel
theorem dX6_asks_47 : decode cX6_asks 47 = .ok (.iconst 0, 1) := by decide +kernel
theorem dX6_asks_48 : decode cX6_asks 48 = .ok (.iadd, 1) := by decide +kernel
theorem dX6_asks_49 : decode cX6_asks 49 = .ok (.iastore, 1) := by decide +kernel
theorem dX6_asks_50 : decode cX6_asks 50 = .ok (.iload 4, 2) := by decide +kernel
theorem dX6_asks_52 : decode cX6_asks 52 = .ok (.ifCond .eq 18, 3) := by decide +kernel
theorem dX6_asks_55 : decode cX6_asks 55 = .ok (.aload_n 0, 1) := by decide +kernel
theorem dX6_asks_56 : decode cX6_asks 56 = .ok (.iload_n 1, 1) := by decide +kernel
theorem dX6_asks_57 : decode cX6_asks 57 = .ok (.iload_n 2, 1) := by decide +kernel
theorem dX6_asks_58 : decode cX6_asks 58 = .ok (.iload_n 3, 1) := by decide +kernel
theorem dX6_asks_59 : decode cX6_asks 59 = .ok (.ifCond .eq 7, 3) := by decide +kernel
theorem dX6_asks_62 : decode cX6_asks 62 = .ok (.iconst 1, 1) := by decide +kernel
theorem dX6_asks_63 : decode cX6_asks 63 = .ok (.goto 4, 3) := by decide +kernel
theorem dX6_asks_66 : decode cX6_asks 66 = .ok (.iconst 0, 1) := by decide +kernel
theorem dX6_asks_67 : decode cX6_asks 67 = .ok (.invokevirtual 112, 3) := by decide +kernel
theorem dX6_asks_70 : decode cX6_asks 70 = .ok (.iload 4, 2) := by decide +kernel
theorem dX6_asks_72 : decode cX6_asks 72 = .ok (.ifCond .eq 7, 3) := by decide +kernel
theorem dX6_asks_75 : decode cX6_asks 75 = .ok (.iconst 1, 1) := by decide +kernel
theorem dX6_asks_76 : decode cX6_asks 76 = .ok (.goto 4, 3) := by decide +kernel
theorem dX6_asks_79 : decode cX6_asks 79 = .ok (.iconst 0, 1) := by decide +kernel
theorem dX6_asks_80 : decode cX6_asks 80 = .ok (.ireturn, 1) := by decide +kernel
set_option maxRecDepth 20000 in
theorem ggX6_spend_X6_isMandate : GoodIn wsX6_spend wsX6_isMandate := goodIn_r _ [6, 7, 8, 9, 5, 10, 60, 61, 62, 63, 64, 65, 66, 67, 68, 69, 70] (by decide +kernel) (by decide +kernel)
set_option maxRecDepth 20000 in
theorem gX6_spend_X6_isMandate : GoodIn wsX6_spend (wsV RX6 87 RX6 yX6_isMandate wsX6_isMandate) := goodIn_app (goodIn_of _ (by decide +kernel)) ggX6_spend_X6_isMandate
set_option maxRecDepth 20000 in
theorem ggX6_spend_X6_isMoney : GoodIn wsX6_spend wsX6_isMoney := goodIn_r _ [13, 8, 9, 5, 10] (by decide +kernel) (by decide +kernel)
set_option maxRecDepth 20000 in
theorem gX6_spend_X6_isMoney : GoodIn wsX6_spend (va_wsS RX6 84 yX6_isMoney wsX6_isMoney) := goodIn_app (goodIn_of _ (by decide +kernel)) ggX6_spend_X6_isMoney
set_option maxRecDepth 20000 in
theorem ggX6_spend_X6_canAsk : GoodIn wsX6_spend wsX6_canAsk := goodIn_r _ [17, 7, 18, 19, 20, 5, 21, 22, 23, 24, 25, 26, 27, 28, 29, 30, 31, 32, 33, 34, 35, 36, 37, 60, 61, 62, 63, 64, 65, 66, 67, 68, 69, 70] (by decide +kernel) (by decide +kernel)
set_option maxRecDepth 20000 in
theorem gX6_spend_X6_canAsk : GoodIn wsX6_spend (wsV RX6 115 RX6 yX6_canAsk wsX6_canAsk) := goodIn_app (goodIn_of _ (by decide +kernel)) ggX6_spend_X6_canAsk
set_option maxRecDepth 20000 in
theorem ggX6_spend_X6_save : GoodIn wsX6_spend wsX6_save := goodIn_r _ [41, 42, 43, 7, 60, 61, 62, 63, 64, 65, 66, 67, 68, 69, 70] (by decide +kernel) (by decide +kernel)
set_option maxRecDepth 20000 in
theorem gX6_spend_X6_save : GoodIn wsX6_spend (wsV RX6 93 RX6 yX6_save wsX6_save) := goodIn_app (goodIn_of _ (by decide +kernel)) ggX6_spend_X6_save
set_option maxRecDepth 20000 in
theorem ggX6_spend_X6_asks : GoodIn wsX6_spend wsX6_asks := goodIn_r _ [47, 7, 18, 19, 20, 5, 21, 48, 49, 50, 51, 52, 53, 54, 55, 56, 57, 58, 59, 60, 61, 62, 63, 64, 65, 66, 67, 68, 69, 70] (by decide +kernel) (by decide +kernel)
set_option maxRecDepth 20000 in
theorem gX6_spend_X6_asks : GoodIn wsX6_spend (wsV RX6 119 RX6 yX6_asks wsX6_asks) := goodIn_app (goodIn_of _ (by decide +kernel)) ggX6_spend_X6_asks
theorem dX6_spend_0 : decode cX6_spend 0 = .ok (.aload_n 0, 1) := by decide +kernel
theorem dX6_spend_1 : decode cX6_spend 1 = .ok (.aload_n 0, 1) := by decide +kernel
theorem dX6_spend_2 : decode cX6_spend 2 = .ok (.iload_n 1, 1) := by decide +kernel
theorem dX6_spend_3 : decode cX6_spend 3 = .ok (.invokevirtual 87, 3) := by decide +kernel
theorem dX6_spend_6 : decode cX6_spend 6 = .ok (.ifCond .ne 7, 3) := by decide +kernel
theorem dX6_spend_9 : decode cX6_spend 9 = .ok (.iconst 1, 1) := by decide +kernel
theorem dX6_spend_10 : decode cX6_spend 10 = .ok (.goto 29, 3) := by decide +kernel
theorem dX6_spend_13 : decode cX6_spend 13 = .ok (.iload_n 2, 1) := by decide +kernel
theorem dX6_spend_14 : decode cX6_spend 14 = .ok (.invokestatic 84, 3) := by decide +kernel
theorem dX6_spend_17 : decode cX6_spend 17 = .ok (.ifCond .ne 7, 3) := by decide +kernel
theorem dX6_spend_20 : decode cX6_spend 20 = .ok (.iconst 2, 1) := by decide +kernel
theorem dX6_spend_21 : decode cX6_spend 21 = .ok (.goto 18, 3) := by decide +kernel
theorem dX6_spend_24 : decode cX6_spend 24 = .ok (.aload_n 0, 1) := by decide +kernel
theorem dX6_spend_25 : decode cX6_spend 25 = .ok (.iload_n 1, 1) := by decide +kernel
theorem dX6_spend_26 : decode cX6_spend 26 = .ok (.iload_n 2, 1) := by decide +kernel
theorem dX6_spend_27 : decode cX6_spend 27 = .ok (.iconst 0, 1) := by decide +kernel
theorem dX6_spend_28 : decode cX6_spend 28 = .ok (.invokevirtual 115, 3) := by decide +kernel
theorem dX6_spend_31 : decode cX6_spend 31 = .ok (.ifCond .eq 7, 3) := by decide +kernel
theorem dX6_spend_34 : decode cX6_spend 34 = .ok (.iconst 0, 1) := by decide +kernel
theorem dX6_spend_35 : decode cX6_spend 35 = .ok (.goto 4, 3) := by decide +kernel
theorem dX6_spend_38 : decode cX6_spend 38 = .ok (.iconst 3, 1) := by decide +kernel
theorem dX6_spend_39 : decode cX6_spend 39 = .ok (.putfield 22, 3) := by decide +kernel
theorem dX6_spend_42 : decode cX6_spend 42 = .ok (.aload_n 0, 1) := by decide +kernel
theorem dX6_spend_43 : decode cX6_spend 43 = .ok (.getfield 22, 3) := by decide +kernel
theorem dX6_spend_46 : decode cX6_spend 46 = .ok (.ifCond .le 5, 3) := by decide +kernel
theorem dX6_spend_49 : decode cX6_spend 49 = .ok (.iconst 0, 1) := by decide +kernel
theorem dX6_spend_50 : decode cX6_spend 50 = .ok (.ireturn, 1) := by decide +kernel
theorem dX6_spend_51 : decode cX6_spend 51 = .ok (.aload_n 0, 1) := by decide +kernel
theorem dX6_spend_52 : decode cX6_spend 52 = .ok (.invokevirtual 93, 3) := by decide +kernel
theorem dX6_spend_55 : decode cX6_spend 55 = .ok (.aload_n 0, 1) := by decide +kernel
theorem dX6_spend_56 : decode cX6_spend 56 = .ok (.iload_n 1, 1) := by decide +kernel
theorem dX6_spend_57 : decode cX6_spend 57 = .ok (.iload_n 2, 1) := by decide +kernel
theorem dX6_spend_58 : decode cX6_spend 58 = .ok (.iconst 0, 1) := by decide +kernel
theorem dX6_spend_59 : decode cX6_spend 59 = .ok (.invokevirtual 119, 3) := by decide +kernel
theorem dX6_spend_62 : decode cX6_spend 62 = .ok (.ireturn, 1) := by decide +kernel
set_option maxRecDepth 20000 in
theorem ggX6_urge_X6_isMandate : GoodIn wsX6_urge wsX6_isMandate := goodIn_r _ [6, 7, 8, 9, 5, 10, 60, 61, 62, 63, 64, 65, 66, 67, 68, 69, 70] (by decide +kernel) (by decide +kernel)
set_option maxRecDepth 20000 in
theorem gX6_urge_X6_isMandate : GoodIn wsX6_urge (wsV RX6 87 RX6 yX6_isMandate wsX6_isMandate) := goodIn_app (goodIn_of _ (by decide +kernel)) ggX6_urge_X6_isMandate
set_option maxRecDepth 20000 in
theorem ggX6_urge_X6_isMoney : GoodIn wsX6_urge wsX6_isMoney := goodIn_r _ [13, 8, 9, 5, 10] (by decide +kernel) (by decide +kernel)
set_option maxRecDepth 20000 in
theorem gX6_urge_X6_isMoney : GoodIn wsX6_urge (va_wsS RX6 84 yX6_isMoney wsX6_isMoney) := goodIn_app (goodIn_of _ (by decide +kernel)) ggX6_urge_X6_isMoney
set_option maxRecDepth 20000 in
theorem ggX6_urge_X6_canAsk : GoodIn wsX6_urge wsX6_canAsk := goodIn_r _ [17, 7, 18, 19, 20, 5, 21, 22, 23, 24, 25, 26, 27, 28, 29, 30, 31, 32, 33, 34, 35, 36, 37, 60, 61, 62, 63, 64, 65, 66, 67, 68, 69, 70] (by decide +kernel) (by decide +kernel)
set_option maxRecDepth 20000 in
theorem gX6_urge_X6_canAsk : GoodIn wsX6_urge (wsV RX6 115 RX6 yX6_canAsk wsX6_canAsk) := goodIn_app (goodIn_of _ (by decide +kernel)) ggX6_urge_X6_canAsk
set_option maxRecDepth 20000 in
theorem ggX6_urge_X6_save : GoodIn wsX6_urge wsX6_save := goodIn_r _ [41, 42, 43, 7, 60, 61, 62, 63, 64, 65, 66, 67, 68, 69, 70] (by decide +kernel) (by decide +kernel)
set_option maxRecDepth 20000 in
theorem gX6_urge_X6_save : GoodIn wsX6_urge (wsV RX6 93 RX6 yX6_save wsX6_save) := goodIn_app (goodIn_of _ (by decide +kernel)) ggX6_urge_X6_save
set_option maxRecDepth 20000 in
theorem ggX6_urge_X6_asks : GoodIn wsX6_urge wsX6_asks := goodIn_r _ [47, 7, 18, 19, 20, 5, 21, 48, 49, 50, 51, 52, 53, 54, 55, 56, 57, 58, 59, 60, 61, 62, 63, 64, 65, 66, 67, 68, 69, 70] (by decide +kernel) (by decide +kernel)
set_option maxRecDepth 20000 in
theorem gX6_urge_X6_asks : GoodIn wsX6_urge (wsV RX6 119 RX6 yX6_asks wsX6_asks) := goodIn_app (goodIn_of _ (by decide +kernel)) ggX6_urge_X6_asks
theorem dX6_urge_0 : decode cX6_urge 0 = .ok (.aload_n 0, 1) := by decide +kernel
theorem dX6_urge_1 : decode cX6_urge 1 = .ok (.aload_n 0, 1) := by decide +kernel
theorem dX6_urge_2 : decode cX6_urge 2 = .ok (.iload_n 1, 1) := by decide +kernel
theorem dX6_urge_3 : decode cX6_urge 3 = .ok (.invokevirtual 87, 3) := by decide +kernel
theorem dX6_urge_6 : decode cX6_urge 6 = .ok (.ifCond .ne 7, 3) := by decide +kernel
theorem dX6_urge_9 : decode cX6_urge 9 = .ok (.iconst 1, 1) := by decide +kernel
theorem dX6_urge_10 : decode cX6_urge 10 = .ok (.goto 29, 3) := by decide +kernel
theorem dX6_urge_13 : decode cX6_urge 13 = .ok (.iload_n 2, 1) := by decide +kernel
theorem dX6_urge_14 : decode cX6_urge 14 = .ok (.invokestatic 84, 3) := by decide +kernel
theorem dX6_urge_17 : decode cX6_urge 17 = .ok (.ifCond .ne 7, 3) := by decide +kernel
theorem dX6_urge_20 : decode cX6_urge 20 = .ok (.iconst 2, 1) := by decide +kernel
theorem dX6_urge_21 : decode cX6_urge 21 = .ok (.goto 18, 3) := by decide +kernel
theorem dX6_urge_24 : decode cX6_urge 24 = .ok (.aload_n 0, 1) := by decide +kernel
theorem dX6_urge_25 : decode cX6_urge 25 = .ok (.iload_n 1, 1) := by decide +kernel
theorem dX6_urge_26 : decode cX6_urge 26 = .ok (.iload_n 2, 1) := by decide +kernel
theorem dX6_urge_27 : decode cX6_urge 27 = .ok (.iconst 1, 1) := by decide +kernel
theorem dX6_urge_28 : decode cX6_urge 28 = .ok (.invokevirtual 115, 3) := by decide +kernel
theorem dX6_urge_31 : decode cX6_urge 31 = .ok (.ifCond .eq 7, 3) := by decide +kernel
theorem dX6_urge_34 : decode cX6_urge 34 = .ok (.iconst 0, 1) := by decide +kernel
theorem dX6_urge_35 : decode cX6_urge 35 = .ok (.goto 4, 3) := by decide +kernel
theorem dX6_urge_38 : decode cX6_urge 38 = .ok (.iconst 3, 1) := by decide +kernel
theorem dX6_urge_39 : decode cX6_urge 39 = .ok (.putfield 22, 3) := by decide +kernel
theorem dX6_urge_42 : decode cX6_urge 42 = .ok (.aload_n 0, 1) := by decide +kernel
theorem dX6_urge_43 : decode cX6_urge 43 = .ok (.getfield 22, 3) := by decide +kernel
theorem dX6_urge_46 : decode cX6_urge 46 = .ok (.ifCond .le 5, 3) := by decide +kernel
theorem dX6_urge_49 : decode cX6_urge 49 = .ok (.iconst 0, 1) := by decide +kernel
theorem dX6_urge_50 : decode cX6_urge 50 = .ok (.ireturn, 1) := by decide +kernel
theorem dX6_urge_51 : decode cX6_urge 51 = .ok (.aload_n 0, 1) := by decide +kernel
theorem dX6_urge_52 : decode cX6_urge 52 = .ok (.invokevirtual 93, 3) := by decide +kernel
theorem dX6_urge_55 : decode cX6_urge 55 = .ok (.aload_n 0, 1) := by decide +kernel
theorem dX6_urge_56 : decode cX6_urge 56 = .ok (.iload_n 1, 1) := by decide +kernel
theorem dX6_urge_57 : decode cX6_urge 57 = .ok (.iload_n 2, 1) := by decide +kernel
theorem dX6_urge_58 : decode cX6_urge 58 = .ok (.iconst 1, 1) := by decide +kernel
theorem dX6_urge_59 : decode cX6_urge 59 = .ok (.invokevirtual 119, 3) := by decide +kernel
theorem dX6_urge_62 : decode cX6_urge 62 = .ok (.ireturn, 1) := by decide +kernel
set_option maxRecDepth 20000 in
theorem ggX6_end_X6_ofRequest : GoodIn wsX6_end wsX6_ofRequest := goodIn_r _ [6, 1, 39, 40, 41, 42, 43, 44, 45, 46, 47, 48, 49] (by decide +kernel) (by decide +kernel)
set_option maxRecDepth 20000 in
theorem gX6_end_X6_ofRequest : GoodIn wsX6_end (wsV RX6 59 RX6 yX6_ofRequest wsX6_ofRequest) := goodIn_app (goodIn_of _ (by decide +kernel)) ggX6_end_X6_ofRequest
set_option maxRecDepth 20000 in
theorem ggX6_end_X6_removeRequest : GoodIn wsX6_end wsX6_removeRequest := goodIn_r _ [10, 1, 39, 40, 41, 42, 43, 44, 45, 46, 47, 48, 49] (by decide +kernel) (by decide +kernel)
set_option maxRecDepth 20000 in
theorem gX6_end_X6_removeRequest : GoodIn wsX6_end (wsV RX6 62 RX6 yX6_removeRequest wsX6_removeRequest) := goodIn_app (goodIn_of _ (by decide +kernel)) ggX6_end_X6_removeRequest
set_option maxRecDepth 20000 in
theorem ggX6_end_X6_reason : GoodIn wsX6_end wsX6_reason := goodIn_r _ [14, 15, 16, 17, 5, 18, 19, 20, 21, 22, 1, 23, 24, 25, 26, 27, 28, 29, 30, 39, 40, 41, 42, 43, 44, 45, 46, 47, 48, 49] (by decide +kernel) (by decide +kernel)
set_option maxRecDepth 20000 in
theorem gX6_end_X6_reason : GoodIn wsX6_end (wsV RX6 105 RX6 yX6_reason wsX6_reason) := goodIn_app (goodIn_of _ (by decide +kernel)) ggX6_end_X6_reason
set_option maxRecDepth 20000 in
theorem ggX6_end_X6_make : GoodIn wsX6_end wsX6_make := goodIn_r _ [34, 1, 19, 20, 21, 5, 22, 35, 36, 37, 38, 39, 40, 41, 42, 43, 44, 45, 46, 47, 48, 49] (by decide +kernel) (by decide +kernel)
set_option maxRecDepth 20000 in
theorem gX6_end_X6_make : GoodIn wsX6_end (wsV RX6 108 RX6 yX6_make wsX6_make) := goodIn_app (goodIn_of _ (by decide +kernel)) ggX6_end_X6_make
theorem dX6_end_0 : decode cX6_end 0 = .ok (.aload_n 0, 1) := by decide +kernel
theorem dX6_end_1 : decode cX6_end 1 = .ok (.iload_n 1, 1) := by decide +kernel
theorem dX6_end_2 : decode cX6_end 2 = .ok (.iconst 0, 1) := by decide +kernel
theorem dX6_end_3 : decode cX6_end 3 = .ok (.invokevirtual 59, 3) := by decide +kernel
theorem dX6_end_6 : decode cX6_end 6 = .ok (.istore_n 2, 1) := by decide +kernel
theorem dX6_end_7 : decode cX6_end 7 = .ok (.aload_n 0, 1) := by decide +kernel
theorem dX6_end_8 : decode cX6_end 8 = .ok (.iload_n 1, 1) := by decide +kernel
theorem dX6_end_9 : decode cX6_end 9 = .ok (.iconst 1, 1) := by decide +kernel
theorem dX6_end_10 : decode cX6_end 10 = .ok (.invokevirtual 59, 3) := by decide +kernel
theorem dX6_end_13 : decode cX6_end 13 = .ok (.istore_n 3, 1) := by decide +kernel
theorem dX6_end_14 : decode cX6_end 14 = .ok (.aload_n 0, 1) := by decide +kernel
theorem dX6_end_15 : decode cX6_end 15 = .ok (.iload_n 1, 1) := by decide +kernel
theorem dX6_end_16 : decode cX6_end 16 = .ok (.iconst 3, 1) := by decide +kernel
theorem dX6_end_17 : decode cX6_end 17 = .ok (.invokevirtual 59, 3) := by decide +kernel
theorem dX6_end_20 : decode cX6_end 20 = .ok (.iconst 1, 1) := by decide +kernel
theorem dX6_end_21 : decode cX6_end 21 = .ok (.if_icmp .ne 7, 3) := by decide +kernel
theorem dX6_end_24 : decode cX6_end 24 = .ok (.iconst 1, 1) := by decide +kernel
theorem dX6_end_25 : decode cX6_end 25 = .ok (.goto 4, 3) := by decide +kernel
theorem dX6_end_28 : decode cX6_end 28 = .ok (.iconst 0, 1) := by decide +kernel
theorem dX6_end_29 : decode cX6_end 29 = .ok (.istore 4, 2) := by decide +kernel
theorem dX6_end_31 : decode cX6_end 31 = .ok (.aload_n 0, 1) := by decide +kernel
theorem dX6_end_32 : decode cX6_end 32 = .ok (.iload_n 1, 1) := by decide +kernel
theorem dX6_end_33 : decode cX6_end 33 = .ok (.invokevirtual 62, 3) := by decide +kernel
theorem dX6_end_36 : decode cX6_end 36 = .ok (.iload 4, 2) := by decide +kernel
theorem dX6_end_38 : decode cX6_end 38 = .ok (.ifCond .eq 5, 3) := by decide +kernel
theorem dX6_end_41 : decode cX6_end 41 = .ok (.iconst 1, 1) := by decide +kernel
theorem dX6_end_42 : decode cX6_end 42 = .ok (.ireturn, 1) := by decide +kernel
theorem dX6_end_43 : decode cX6_end 43 = .ok (.aload_n 0, 1) := by decide +kernel
theorem dX6_end_44 : decode cX6_end 44 = .ok (.iload_n 2, 1) := by decide +kernel
theorem dX6_end_45 : decode cX6_end 45 = .ok (.iload_n 3, 1) := by decide +kernel
theorem dX6_end_46 : decode cX6_end 46 = .ok (.invokevirtual 105, 3) := by decide +kernel
theorem dX6_end_49 : decode cX6_end 49 = .ok (.ifCond .le 16, 3) := by decide +kernel
theorem dX6_end_52 : decode cX6_end 52 = .ok (.aload_n 0, 1) := by decide +kernel
theorem dX6_end_53 : decode cX6_end 53 = .ok (.getfield 7, 3) := by decide +kernel
theorem dX6_end_56 : decode cX6_end 56 = .ok (.bipush 9, 2) := by decide +kernel
theorem dX6_end_58 : decode cX6_end 58 = .ok (.dup2, 1) := by decide +kernel
theorem dX6_end_59 : decode cX6_end 59 = .ok (.iaload, 1) := by decide +kernel
theorem dX6_end_60 : decode cX6_end 60 = .ok (.iconst 1, 1) := by decide +kernel
theorem dX6_end_61 : decode cX6_end 61 = .ok (.iadd, 1) := by decide +kernel
theorem dX6_end_62 : decode cX6_end 62 = .ok (.iastore, 1) := by decide +kernel
theorem dX6_end_63 : decode cX6_end 63 = .ok (.iconst 2, 1) := by decide +kernel
theorem dX6_end_64 : decode cX6_end 64 = .ok (.ireturn, 1) := by decide +kernel
theorem dX6_end_65 : decode cX6_end 65 = .ok (.aload_n 0, 1) := by decide +kernel
theorem dX6_end_66 : decode cX6_end 66 = .ok (.iload_n 2, 1) := by decide +kernel
theorem dX6_end_67 : decode cX6_end 67 = .ok (.iload_n 3, 1) := by decide +kernel
theorem dX6_end_68 : decode cX6_end 68 = .ok (.invokevirtual 108, 3) := by decide +kernel
theorem dX6_end_71 : decode cX6_end 71 = .ok (.iconst 1, 1) := by decide +kernel
theorem dX6_end_72 : decode cX6_end 72 = .ok (.ireturn, 1) := by decide +kernel
set_option maxRecDepth 20000 in
theorem ggX6_approve_X6_isRequest : GoodIn wsX6_approve wsX6_isRequest := goodIn_r _ [7, 2, 8, 9, 6, 10, 74, 75, 76, 77, 78, 79, 80, 81, 82, 83, 84] (by decide +kernel) (by decide +kernel)
set_option maxRecDepth 20000 in
theorem gX6_approve_X6_isRequest : GoodIn wsX6_approve (wsV RX6 123 RX6 yX6_isRequest wsX6_isRequest) := goodIn_app (goodIn_of _ (by decide +kernel)) ggX6_approve_X6_isRequest
set_option maxRecDepth 20000 in
theorem ggX6_approve_X6_isPerson : GoodIn wsX6_approve wsX6_isPerson := goodIn_r _ [13, 8, 9, 6, 10] (by decide +kernel) (by decide +kernel)
set_option maxRecDepth 20000 in
theorem gX6_approve_X6_isPerson : GoodIn wsX6_approve (va_wsS RX6 81 yX6_isPerson wsX6_isPerson) := goodIn_app (goodIn_of _ (by decide +kernel)) ggX6_approve_X6_isPerson
set_option maxRecDepth 20000 in
theorem ggX6_approve_X6_canApprove : GoodIn wsX6_approve wsX6_canApprove := goodIn_r _ [17, 18, 19, 20, 6, 21, 2, 22, 23, 24, 25, 26, 27, 28, 29, 30, 31, 32, 74, 75, 76, 77, 78, 79, 80, 81, 82, 83, 84] (by decide +kernel) (by decide +kernel)
set_option maxRecDepth 20000 in
theorem gX6_approve_X6_canApprove : GoodIn wsX6_approve (wsV RX6 72 RX6 yX6_canApprove wsX6_canApprove) := goodIn_app (goodIn_of _ (by decide +kernel)) ggX6_approve_X6_canApprove
set_option maxRecDepth 20000 in
theorem ggX6_approve_X6_save : GoodIn wsX6_approve wsX6_save := goodIn_r _ [36, 37, 38, 2, 74, 75, 76, 77, 78, 79, 80, 81, 82, 83, 84] (by decide +kernel) (by decide +kernel)
set_option maxRecDepth 20000 in
theorem gX6_approve_X6_save : GoodIn wsX6_approve (wsV RX6 93 RX6 yX6_save wsX6_save) := goodIn_app (goodIn_of _ (by decide +kernel)) ggX6_approve_X6_save
set_option maxRecDepth 20000 in
theorem ggX6_approve_X6_ofRequest : GoodIn wsX6_approve wsX6_ofRequest := goodIn_r _ [21, 2, 74, 75, 76, 77, 78, 79, 80, 81, 82, 83, 84] (by decide +kernel) (by decide +kernel)
set_option maxRecDepth 20000 in
theorem gX6_approve_X6_ofRequest : GoodIn wsX6_approve (wsV RX6 59 RX6 yX6_ofRequest wsX6_ofRequest) := goodIn_app (goodIn_of _ (by decide +kernel)) ggX6_approve_X6_ofRequest
set_option maxRecDepth 20000 in
theorem ggX6_approve_X6_ones : GoodIn wsX6_approve wsX6_ones := goodIn_r _ [41] (by decide +kernel) (by decide +kernel)
set_option maxRecDepth 20000 in
theorem gX6_approve_X6_ones : GoodIn wsX6_approve (va_wsS RX6 66 yX6_ones wsX6_ones) := goodIn_app (goodIn_of _ (by decide +kernel)) ggX6_approve_X6_ones
set_option maxRecDepth 20000 in
theorem ggX6_approve_X6_end : GoodIn wsX6_approve wsX6_end := goodIn_r _ [45, 2, 18, 19, 20, 6, 21, 46, 47, 48, 49, 50, 51, 52, 53, 54, 55, 56, 57, 25, 26, 27, 28, 58, 59, 60, 61, 62, 63, 64, 65, 66, 67, 68, 69, 70, 71, 72, 73, 74, 75, 76, 77, 78, 79, 80, 81, 82, 83, 84] (by decide +kernel) (by decide +kernel)
set_option maxRecDepth 20000 in
theorem gX6_approve_X6_end : GoodIn wsX6_approve (wsV RX6 126 RX6 yX6_end wsX6_end) := goodIn_app (goodIn_of _ (by decide +kernel)) ggX6_approve_X6_end
theorem dX6_approve_0 : decode cX6_approve 0 = .ok (.aload_n 0, 1) := by decide +kernel
theorem dX6_approve_1 : decode cX6_approve 1 = .ok (.aload_n 0, 1) := by decide +kernel
theorem dX6_approve_2 : decode cX6_approve 2 = .ok (.iload_n 1, 1) := by decide +kernel
theorem dX6_approve_3 : decode cX6_approve 3 = .ok (.invokevirtual 123, 3) := by decide +kernel
theorem dX6_approve_6 : decode cX6_approve 6 = .ok (.ifCond .eq 10, 3) := by decide +kernel
theorem dX6_approve_9 : decode cX6_approve 9 = .ok (.iload_n 2, 1) := by decide +kernel
theorem dX6_approve_10 : decode cX6_approve 10 = .ok (.invokestatic 81, 3) := by decide +kernel
theorem dX6_approve_13 : decode cX6_approve 13 = .ok (.ifCond .ne 7, 3) := by decide +kernel
theorem dX6_approve_16 : decode cX6_approve 16 = .ok (.iconst 1, 1) := by decide +kernel
theorem dX6_approve_17 : decode cX6_approve 17 = .ok (.goto 17, 3) := by decide +kernel
theorem dX6_approve_20 : decode cX6_approve 20 = .ok (.aload_n 0, 1) := by decide +kernel
theorem dX6_approve_21 : decode cX6_approve 21 = .ok (.iload_n 1, 1) := by decide +kernel
theorem dX6_approve_22 : decode cX6_approve 22 = .ok (.iload_n 2, 1) := by decide +kernel
theorem dX6_approve_23 : decode cX6_approve 23 = .ok (.invokevirtual 72, 3) := by decide +kernel
theorem dX6_approve_26 : decode cX6_approve 26 = .ok (.ifCond .eq 7, 3) := by decide +kernel
theorem dX6_approve_29 : decode cX6_approve 29 = .ok (.iconst 0, 1) := by decide +kernel
theorem dX6_approve_30 : decode cX6_approve 30 = .ok (.goto 4, 3) := by decide +kernel
theorem dX6_approve_33 : decode cX6_approve 33 = .ok (.iconst 2, 1) := by decide +kernel
theorem dX6_approve_34 : decode cX6_approve 34 = .ok (.putfield 22, 3) := by decide +kernel
theorem dX6_approve_37 : decode cX6_approve 37 = .ok (.aload_n 0, 1) := by decide +kernel
theorem dX6_approve_38 : decode cX6_approve 38 = .ok (.getfield 22, 3) := by decide +kernel
theorem dX6_approve_41 : decode cX6_approve 41 = .ok (.ifCond .le 5, 3) := by decide +kernel
theorem dX6_approve_44 : decode cX6_approve 44 = .ok (.iconst 0, 1) := by decide +kernel
theorem dX6_approve_45 : decode cX6_approve 45 = .ok (.ireturn, 1) := by decide +kernel
theorem dX6_approve_46 : decode cX6_approve 46 = .ok (.aload_n 0, 1) := by decide +kernel
theorem dX6_approve_47 : decode cX6_approve 47 = .ok (.invokevirtual 93, 3) := by decide +kernel
theorem dX6_approve_50 : decode cX6_approve 50 = .ok (.aload_n 0, 1) := by decide +kernel
theorem dX6_approve_51 : decode cX6_approve 51 = .ok (.getfield 7, 3) := by decide +kernel
theorem dX6_approve_54 : decode cX6_approve 54 = .ok (.bipush 11, 2) := by decide +kernel
theorem dX6_approve_56 : decode cX6_approve 56 = .ok (.iload_n 2, 1) := by decide +kernel
theorem dX6_approve_57 : decode cX6_approve 57 = .ok (.iadd, 1) := by decide +kernel
theorem dX6_approve_58 : decode cX6_approve 58 = .ok (.dup2, 1) := by decide +kernel
theorem dX6_approve_59 : decode cX6_approve 59 = .ok (.iaload, 1) := by decide +kernel
theorem dX6_approve_60 : decode cX6_approve 60 = .ok (.iconst 1, 1) := by decide +kernel
theorem dX6_approve_61 : decode cX6_approve 61 = .ok (.iadd, 1) := by decide +kernel
theorem dX6_approve_62 : decode cX6_approve 62 = .ok (.iastore, 1) := by decide +kernel
theorem dX6_approve_63 : decode cX6_approve 63 = .ok (.aload_n 0, 1) := by decide +kernel
theorem dX6_approve_64 : decode cX6_approve 64 = .ok (.getfield 7, 3) := by decide +kernel
theorem dX6_approve_67 : decode cX6_approve 67 = .ok (.bipush 127, 2) := by decide +kernel
theorem dX6_approve_69 : decode cX6_approve 69 = .ok (.bipush 6, 2) := by decide +kernel
theorem dX6_approve_71 : decode cX6_approve 71 = .ok (.iload_n 1, 1) := by decide +kernel
theorem dX6_approve_72 : decode cX6_approve 72 = .ok (.imul, 1) := by decide +kernel
theorem dX6_approve_73 : decode cX6_approve 73 = .ok (.iadd, 1) := by decide +kernel
theorem dX6_approve_74 : decode cX6_approve 74 = .ok (.iconst 5, 1) := by decide +kernel
theorem dX6_approve_75 : decode cX6_approve 75 = .ok (.iadd, 1) := by decide +kernel
theorem dX6_approve_76 : decode cX6_approve 76 = .ok (.dup2, 1) := by decide +kernel
theorem dX6_approve_77 : decode cX6_approve 77 = .ok (.iaload, 1) := by decide +kernel
theorem dX6_approve_78 : decode cX6_approve 78 = .ok (.iconst 1, 1) := by decide +kernel
theorem dX6_approve_79 : decode cX6_approve 79 = .ok (.iload_n 2, 1) := by decide +kernel
theorem dX6_approve_80 : decode cX6_approve 80 = .ok (.ishl, 1) := by decide +kernel
theorem dX6_approve_81 : decode cX6_approve 81 = .ok (.ior, 1) := by decide +kernel
theorem dX6_approve_82 : decode cX6_approve 82 = .ok (.iastore, 1) := by decide +kernel
theorem dX6_approve_83 : decode cX6_approve 83 = .ok (.aload_n 0, 1) := by decide +kernel
theorem dX6_approve_84 : decode cX6_approve 84 = .ok (.iload_n 1, 1) := by decide +kernel
theorem dX6_approve_85 : decode cX6_approve 85 = .ok (.iconst 5, 1) := by decide +kernel
theorem dX6_approve_86 : decode cX6_approve 86 = .ok (.invokevirtual 59, 3) := by decide +kernel
theorem dX6_approve_89 : decode cX6_approve 89 = .ok (.invokestatic 66, 3) := by decide +kernel
theorem dX6_approve_92 : decode cX6_approve 92 = .ok (.aload_n 0, 1) := by decide +kernel
theorem dX6_approve_93 : decode cX6_approve 93 = .ok (.iload_n 1, 1) := by decide +kernel
theorem dX6_approve_94 : decode cX6_approve 94 = .ok (.iconst 4, 1) := by decide +kernel
theorem dX6_approve_95 : decode cX6_approve 95 = .ok (.invokevirtual 59, 3) := by decide +kernel
theorem dX6_approve_98 : decode cX6_approve 98 = .ok (.if_icmp .ge 7, 3) := by decide +kernel
theorem dX6_approve_101 : decode cX6_approve 101 = .ok (.iconst 0, 1) := by decide +kernel
theorem dX6_approve_102 : decode cX6_approve 102 = .ok (.goto 8, 3) := by decide +kernel
theorem dX6_approve_105 : decode cX6_approve 105 = .ok (.aload_n 0, 1) := by decide +kernel
theorem dX6_approve_106 : decode cX6_approve 106 = .ok (.iload_n 1, 1) := by decide +kernel
theorem dX6_approve_107 : decode cX6_approve 107 = .ok (.invokevirtual 126, 3) := by decide +kernel
theorem dX6_approve_110 : decode cX6_approve 110 = .ok (.ireturn, 1) := by decide +kernel
set_option maxRecDepth 20000 in
theorem ggX6_takeBack_X6_isRequest : GoodIn wsX6_takeBack wsX6_isRequest := goodIn_r _ [6, 7, 8, 9, 5, 10, 25, 26, 27, 28, 29, 30, 31, 32, 33, 34, 35] (by decide +kernel) (by decide +kernel)
set_option maxRecDepth 20000 in
theorem gX6_takeBack_X6_isRequest : GoodIn wsX6_takeBack (wsV RX6 123 RX6 yX6_isRequest wsX6_isRequest) := goodIn_app (goodIn_of _ (by decide +kernel)) ggX6_takeBack_X6_isRequest
set_option maxRecDepth 20000 in
theorem ggX6_takeBack_X6_ofRequest : GoodIn wsX6_takeBack wsX6_ofRequest := goodIn_r _ [14, 7, 25, 26, 27, 28, 29, 30, 31, 32, 33, 34, 35] (by decide +kernel) (by decide +kernel)
set_option maxRecDepth 20000 in
theorem gX6_takeBack_X6_ofRequest : GoodIn wsX6_takeBack (wsV RX6 59 RX6 yX6_ofRequest wsX6_ofRequest) := goodIn_app (goodIn_of _ (by decide +kernel)) ggX6_takeBack_X6_ofRequest
set_option maxRecDepth 20000 in
theorem ggX6_takeBack_X6_save : GoodIn wsX6_takeBack wsX6_save := goodIn_r _ [18, 19, 20, 7, 25, 26, 27, 28, 29, 30, 31, 32, 33, 34, 35] (by decide +kernel) (by decide +kernel)
set_option maxRecDepth 20000 in
theorem gX6_takeBack_X6_save : GoodIn wsX6_takeBack (wsV RX6 93 RX6 yX6_save wsX6_save) := goodIn_app (goodIn_of _ (by decide +kernel)) ggX6_takeBack_X6_save
set_option maxRecDepth 20000 in
theorem ggX6_takeBack_X6_removeRequest : GoodIn wsX6_takeBack wsX6_removeRequest := goodIn_r _ [24, 7, 25, 26, 27, 28, 29, 30, 31, 32, 33, 34, 35] (by decide +kernel) (by decide +kernel)
set_option maxRecDepth 20000 in
theorem gX6_takeBack_X6_removeRequest : GoodIn wsX6_takeBack (wsV RX6 62 RX6 yX6_removeRequest wsX6_removeRequest) := goodIn_app (goodIn_of _ (by decide +kernel)) ggX6_takeBack_X6_removeRequest
theorem dX6_takeBack_0 : decode cX6_takeBack 0 = .ok (.aload_n 0, 1) := by decide +kernel
theorem dX6_takeBack_1 : decode cX6_takeBack 1 = .ok (.aload_n 0, 1) := by decide +kernel
theorem dX6_takeBack_2 : decode cX6_takeBack 2 = .ok (.iload_n 1, 1) := by decide +kernel
theorem dX6_takeBack_3 : decode cX6_takeBack 3 = .ok (.invokevirtual 123, 3) := by decide +kernel
theorem dX6_takeBack_6 : decode cX6_takeBack 6 = .ok (.ifCond .ne 7, 3) := by decide +kernel
theorem dX6_takeBack_9 : decode cX6_takeBack 9 = .ok (.iconst 1, 1) := by decide +kernel
theorem dX6_takeBack_10 : decode cX6_takeBack 10 = .ok (.goto 17, 3) := by decide +kernel
theorem dX6_takeBack_13 : decode cX6_takeBack 13 = .ok (.aload_n 0, 1) := by decide +kernel
theorem dX6_takeBack_14 : decode cX6_takeBack 14 = .ok (.iload_n 1, 1) := by decide +kernel
theorem dX6_takeBack_15 : decode cX6_takeBack 15 = .ok (.iconst 3, 1) := by decide +kernel
theorem dX6_takeBack_16 : decode cX6_takeBack 16 = .ok (.invokevirtual 59, 3) := by decide +kernel
theorem dX6_takeBack_19 : decode cX6_takeBack 19 = .ok (.ifCond .ne 7, 3) := by decide +kernel
theorem dX6_takeBack_22 : decode cX6_takeBack 22 = .ok (.iconst 0, 1) := by decide +kernel
theorem dX6_takeBack_23 : decode cX6_takeBack 23 = .ok (.goto 4, 3) := by decide +kernel
theorem dX6_takeBack_26 : decode cX6_takeBack 26 = .ok (.iconst 2, 1) := by decide +kernel
theorem dX6_takeBack_27 : decode cX6_takeBack 27 = .ok (.putfield 22, 3) := by decide +kernel
theorem dX6_takeBack_30 : decode cX6_takeBack 30 = .ok (.aload_n 0, 1) := by decide +kernel
theorem dX6_takeBack_31 : decode cX6_takeBack 31 = .ok (.getfield 22, 3) := by decide +kernel
theorem dX6_takeBack_34 : decode cX6_takeBack 34 = .ok (.ifCond .le 5, 3) := by decide +kernel
theorem dX6_takeBack_37 : decode cX6_takeBack 37 = .ok (.iconst 0, 1) := by decide +kernel
theorem dX6_takeBack_38 : decode cX6_takeBack 38 = .ok (.ireturn, 1) := by decide +kernel
theorem dX6_takeBack_39 : decode cX6_takeBack 39 = .ok (.aload_n 0, 1) := by decide +kernel
theorem dX6_takeBack_40 : decode cX6_takeBack 40 = .ok (.invokevirtual 93, 3) := by decide +kernel
theorem dX6_takeBack_43 : decode cX6_takeBack 43 = .ok (.aload_n 0, 1) := by decide +kernel
theorem dX6_takeBack_44 : decode cX6_takeBack 44 = .ok (.iload_n 1, 1) := by decide +kernel
theorem dX6_takeBack_45 : decode cX6_takeBack 45 = .ok (.iconst 1, 1) := by decide +kernel
theorem dX6_takeBack_46 : decode cX6_takeBack 46 = .ok (.invokevirtual 59, 3) := by decide +kernel
theorem dX6_takeBack_49 : decode cX6_takeBack 49 = .ok (.istore_n 2, 1) := by decide +kernel
theorem dX6_takeBack_50 : decode cX6_takeBack 50 = .ok (.aload_n 0, 1) := by decide +kernel
theorem dX6_takeBack_51 : decode cX6_takeBack 51 = .ok (.iload_n 1, 1) := by decide +kernel
theorem dX6_takeBack_52 : decode cX6_takeBack 52 = .ok (.invokevirtual 62, 3) := by decide +kernel
theorem dX6_takeBack_55 : decode cX6_takeBack 55 = .ok (.iload_n 2, 1) := by decide +kernel
theorem dX6_takeBack_56 : decode cX6_takeBack 56 = .ok (.ireturn, 1) := by decide +kernel
set_option maxRecDepth 20000 in
theorem ggX6_tooLate_X6_ofRequest : GoodIn wsX6_tooLate wsX6_ofRequest := goodIn_r _ [6, 1, 7, 8, 9, 10, 11, 12, 13, 14, 15, 16, 17] (by decide +kernel) (by decide +kernel)
set_option maxRecDepth 20000 in
theorem gX6_tooLate_X6_ofRequest : GoodIn wsX6_tooLate (wsV RX6 59 RX6 yX6_ofRequest wsX6_ofRequest) := goodIn_app (goodIn_of _ (by decide +kernel)) ggX6_tooLate_X6_ofRequest
theorem dX6_tooLate_0 : decode cX6_tooLate 0 = .ok (.iconst 0, 1) := by decide +kernel
theorem dX6_tooLate_1 : decode cX6_tooLate 1 = .ok (.istore_n 1, 1) := by decide +kernel
theorem dX6_tooLate_2 : decode cX6_tooLate 2 = .ok (.iload_n 1, 1) := by decide +kernel
theorem dX6_tooLate_3 : decode cX6_tooLate 3 = .ok (.aload_n 0, 1) := by decide +kernel
theorem dX6_tooLate_4 : decode cX6_tooLate 4 = .ok (.getfield 7, 3) := by decide +kernel
theorem dX6_tooLate_7 : decode cX6_tooLate 7 = .ok (.iconst 4, 1) := by decide +kernel
theorem dX6_tooLate_8 : decode cX6_tooLate 8 = .ok (.iaload, 1) := by decide +kernel
theorem dX6_tooLate_9 : decode cX6_tooLate 9 = .ok (.if_icmp .ge 43, 3) := by decide +kernel
theorem dX6_tooLate_12 : decode cX6_tooLate 12 = .ok (.aload_n 0, 1) := by decide +kernel
