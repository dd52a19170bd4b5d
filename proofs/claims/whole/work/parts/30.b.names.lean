theorem dX6_tooLate_13 : decode cX6_tooLate 13 = .ok (.iload_n 1, 1) := by decide +kernel
theorem dX6_tooLate_14 : decode cX6_tooLate 14 = .ok (.iconst 3, 1) := by decide +kernel
theorem dX6_tooLate_15 : decode cX6_tooLate 15 = .ok (.invokevirtual 59, 3) := by decide +kernel
theorem dX6_tooLate_18 : decode cX6_tooLate 18 = .ok (.iconst 1, 1) := by decide +kernel
theorem dX6_tooLate_19 : decode cX6_tooLate 19 = .ok (.if_icmp .ne 27, 3) := by decide +kernel
theorem dX6_tooLate_22 : decode cX6_tooLate 22 = .ok (.aload_n 0, 1) := by decide +kernel
theorem dX6_tooLate_23 : decode cX6_tooLate 23 = .ok (.getfield 7, 3) := by decide +kernel
theorem dX6_tooLate_26 : decode cX6_tooLate 26 = .ok (.iconst 2, 1) := by decide +kernel
theorem dX6_tooLate_27 : decode cX6_tooLate 27 = .ok (.iaload, 1) := by decide +kernel
theorem dX6_tooLate_28 : decode cX6_tooLate 28 = .ok (.aload_n 0, 1) := by decide +kernel
theorem dX6_tooLate_29 : decode cX6_tooLate 29 = .ok (.iload_n 1, 1) := by decide +kernel
theorem dX6_tooLate_30 : decode cX6_tooLate 30 = .ok (.iconst 2, 1) := by decide +kernel
theorem dX6_tooLate_31 : decode cX6_tooLate 31 = .ok (.invokevirtual 59, 3) := by decide +kernel
theorem dX6_tooLate_34 : decode cX6_tooLate 34 = .ok (.aload_n 0, 1) := by decide +kernel
theorem dX6_tooLate_35 : decode cX6_tooLate 35 = .ok (.getfield 7, 3) := by decide +kernel
theorem dX6_tooLate_38 : decode cX6_tooLate 38 = .ok (.iconst 0, 1) := by decide +kernel
theorem dX6_tooLate_39 : decode cX6_tooLate 39 = .ok (.iaload, 1) := by decide +kernel
theorem dX6_tooLate_40 : decode cX6_tooLate 40 = .ok (.iadd, 1) := by decide +kernel
theorem dX6_tooLate_41 : decode cX6_tooLate 41 = .ok (.if_icmp .le 5, 3) := by decide +kernel
theorem dX6_tooLate_44 : decode cX6_tooLate 44 = .ok (.iload_n 1, 1) := by decide +kernel
theorem dX6_tooLate_45 : decode cX6_tooLate 45 = .ok (.ireturn, 1) := by decide +kernel
theorem dX6_tooLate_46 : decode cX6_tooLate 46 = .ok (.iinc 1 1, 3) := by decide +kernel
theorem dX6_tooLate_49 : decode cX6_tooLate 49 = .ok (.goto (-47), 3) := by decide +kernel
theorem dX6_tooLate_52 : decode cX6_tooLate 52 = .ok (.iconst (-1), 1) := by decide +kernel
theorem dX6_tooLate_53 : decode cX6_tooLate 53 = .ok (.ireturn, 1) := by decide +kernel
set_option maxRecDepth 20000 in
theorem ggX6_dayPasses_X6_put : GoodIn wsX6_dayPasses wsX6_put := goodIn_r _ [6, 1, 45, 46, 47, 48, 49, 50, 51, 52, 53, 54, 55] (by decide +kernel) (by decide +kernel)
set_option maxRecDepth 20000 in
theorem gX6_dayPasses_X6_put : GoodIn wsX6_dayPasses (wsV RX6 55 RX6 yX6_put wsX6_put) := goodIn_app (goodIn_of _ (by decide +kernel)) ggX6_dayPasses_X6_put
set_option maxRecDepth 20000 in
theorem ggX6_dayPasses_X6_tooLate : GoodIn wsX6_dayPasses wsX6_tooLate := goodIn_r _ [10, 1, 11, 12, 13, 5, 14, 45, 46, 47, 48, 49, 50, 51, 52, 53, 54, 55] (by decide +kernel) (by decide +kernel)
set_option maxRecDepth 20000 in
theorem gX6_dayPasses_X6_tooLate : GoodIn wsX6_dayPasses (wsV RX6 129 RX6 yX6_tooLate wsX6_tooLate) := goodIn_app (goodIn_of _ (by decide +kernel)) ggX6_dayPasses_X6_tooLate
set_option maxRecDepth 20000 in
theorem ggX6_dayPasses_X6_ofRequest : GoodIn wsX6_dayPasses wsX6_ofRequest := goodIn_r _ [14, 1, 45, 46, 47, 48, 49, 50, 51, 52, 53, 54, 55] (by decide +kernel) (by decide +kernel)
set_option maxRecDepth 20000 in
theorem gX6_dayPasses_X6_ofRequest : GoodIn wsX6_dayPasses (wsV RX6 59 RX6 yX6_ofRequest wsX6_ofRequest) := goodIn_app (goodIn_of _ (by decide +kernel)) ggX6_dayPasses_X6_ofRequest
set_option maxRecDepth 20000 in
theorem ggX6_dayPasses_X6_removeRequest : GoodIn wsX6_dayPasses wsX6_removeRequest := goodIn_r _ [18, 1, 45, 46, 47, 48, 49, 50, 51, 52, 53, 54, 55] (by decide +kernel) (by decide +kernel)
set_option maxRecDepth 20000 in
theorem gX6_dayPasses_X6_removeRequest : GoodIn wsX6_dayPasses (wsV RX6 62 RX6 yX6_removeRequest wsX6_removeRequest) := goodIn_app (goodIn_of _ (by decide +kernel)) ggX6_dayPasses_X6_removeRequest
set_option maxRecDepth 20000 in
theorem ggX6_dayPasses_X6_stands : GoodIn wsX6_dayPasses wsX6_stands := goodIn_r _ [22, 23, 24, 25, 5, 26, 1, 45, 46, 47, 48, 49, 50, 51, 52, 53, 54, 55] (by decide +kernel) (by decide +kernel)
set_option maxRecDepth 20000 in
theorem gX6_dayPasses_X6_stands : GoodIn wsX6_dayPasses (wsV RX6 41 RX6 yX6_stands wsX6_stands) := goodIn_app (goodIn_of _ (by decide +kernel)) ggX6_dayPasses_X6_stands
set_option maxRecDepth 20000 in
theorem ggX6_dayPasses_X6_lapse : GoodIn wsX6_dayPasses wsX6_lapse := goodIn_r _ [30, 1, 31, 32, 33, 5, 34, 19, 20, 21, 22, 23, 24, 25, 26, 35, 36, 37, 38, 39, 40, 41, 2, 3, 4, 6, 11, 12, 13, 14, 15, 16, 17, 18, 42, 43, 44, 45, 46, 47, 48, 49, 50, 51, 52, 53, 54, 55] (by decide +kernel) (by decide +kernel)
set_option maxRecDepth 20000 in
theorem gX6_dayPasses_X6_lapse : GoodIn wsX6_dayPasses (wsV RX6 96 RX6 yX6_lapse wsX6_lapse) := goodIn_app (goodIn_of _ (by decide +kernel)) ggX6_dayPasses_X6_lapse
theorem dX6_dayPasses_0 : decode cX6_dayPasses 0 = .ok (.aload_n 0, 1) := by decide +kernel
theorem dX6_dayPasses_1 : decode cX6_dayPasses 1 = .ok (.getfield 7, 3) := by decide +kernel
theorem dX6_dayPasses_4 : decode cX6_dayPasses 4 = .ok (.iconst 2, 1) := by decide +kernel
theorem dX6_dayPasses_5 : decode cX6_dayPasses 5 = .ok (.dup2, 1) := by decide +kernel
theorem dX6_dayPasses_6 : decode cX6_dayPasses 6 = .ok (.iaload, 1) := by decide +kernel
theorem dX6_dayPasses_7 : decode cX6_dayPasses 7 = .ok (.iconst 1, 1) := by decide +kernel
theorem dX6_dayPasses_8 : decode cX6_dayPasses 8 = .ok (.iadd, 1) := by decide +kernel
theorem dX6_dayPasses_9 : decode cX6_dayPasses 9 = .ok (.iastore, 1) := by decide +kernel
theorem dX6_dayPasses_10 : decode cX6_dayPasses 10 = .ok (.aload_n 0, 1) := by decide +kernel
theorem dX6_dayPasses_11 : decode cX6_dayPasses 11 = .ok (.getfield 7, 3) := by decide +kernel
theorem dX6_dayPasses_14 : decode cX6_dayPasses 14 = .ok (.iconst 2, 1) := by decide +kernel
theorem dX6_dayPasses_15 : decode cX6_dayPasses 15 = .ok (.iaload, 1) := by decide +kernel
theorem dX6_dayPasses_16 : decode cX6_dayPasses 16 = .ok (.bipush 10, 2) := by decide +kernel
theorem dX6_dayPasses_18 : decode cX6_dayPasses 18 = .ok (.irem, 1) := by decide +kernel
theorem dX6_dayPasses_19 : decode cX6_dayPasses 19 = .ok (.ifCond .ne 37, 3) := by decide +kernel
theorem dX6_dayPasses_22 : decode cX6_dayPasses 22 = .ok (.aload_n 0, 1) := by decide +kernel
theorem dX6_dayPasses_23 : decode cX6_dayPasses 23 = .ok (.getfield 7, 3) := by decide +kernel
theorem dX6_dayPasses_26 : decode cX6_dayPasses 26 = .ok (.bipush 6, 2) := by decide +kernel
theorem dX6_dayPasses_28 : decode cX6_dayPasses 28 = .ok (.iconst 0, 1) := by decide +kernel
theorem dX6_dayPasses_29 : decode cX6_dayPasses 29 = .ok (.iastore, 1) := by decide +kernel
theorem dX6_dayPasses_30 : decode cX6_dayPasses 30 = .ok (.iconst 0, 1) := by decide +kernel
theorem dX6_dayPasses_31 : decode cX6_dayPasses 31 = .ok (.istore_n 1, 1) := by decide +kernel
theorem dX6_dayPasses_32 : decode cX6_dayPasses 32 = .ok (.iload_n 1, 1) := by decide +kernel
theorem dX6_dayPasses_33 : decode cX6_dayPasses 33 = .ok (.aload_n 0, 1) := by decide +kernel
theorem dX6_dayPasses_34 : decode cX6_dayPasses 34 = .ok (.getfield 7, 3) := by decide +kernel
theorem dX6_dayPasses_37 : decode cX6_dayPasses 37 = .ok (.iconst 3, 1) := by decide +kernel
theorem dX6_dayPasses_38 : decode cX6_dayPasses 38 = .ok (.iaload, 1) := by decide +kernel
theorem dX6_dayPasses_39 : decode cX6_dayPasses 39 = .ok (.if_icmp .ge 17, 3) := by decide +kernel
theorem dX6_dayPasses_42 : decode cX6_dayPasses 42 = .ok (.aload_n 0, 1) := by decide +kernel
theorem dX6_dayPasses_43 : decode cX6_dayPasses 43 = .ok (.iload_n 1, 1) := by decide +kernel
theorem dX6_dayPasses_44 : decode cX6_dayPasses 44 = .ok (.bipush 6, 2) := by decide +kernel
theorem dX6_dayPasses_46 : decode cX6_dayPasses 46 = .ok (.iconst 0, 1) := by decide +kernel
theorem dX6_dayPasses_47 : decode cX6_dayPasses 47 = .ok (.invokevirtual 55, 3) := by decide +kernel
theorem dX6_dayPasses_50 : decode cX6_dayPasses 50 = .ok (.iinc 1 1, 3) := by decide +kernel
theorem dX6_dayPasses_53 : decode cX6_dayPasses 53 = .ok (.goto (-21), 3) := by decide +kernel
theorem dX6_dayPasses_56 : decode cX6_dayPasses 56 = .ok (.iconst 0, 1) := by decide +kernel
theorem dX6_dayPasses_57 : decode cX6_dayPasses 57 = .ok (.istore_n 1, 1) := by decide +kernel
theorem dX6_dayPasses_58 : decode cX6_dayPasses 58 = .ok (.aload_n 0, 1) := by decide +kernel
theorem dX6_dayPasses_59 : decode cX6_dayPasses 59 = .ok (.invokevirtual 129, 3) := by decide +kernel
theorem dX6_dayPasses_62 : decode cX6_dayPasses 62 = .ok (.istore_n 2, 1) := by decide +kernel
theorem dX6_dayPasses_63 : decode cX6_dayPasses 63 = .ok (.iload_n 2, 1) := by decide +kernel
theorem dX6_dayPasses_64 : decode cX6_dayPasses 64 = .ok (.iconst (-1), 1) := by decide +kernel
theorem dX6_dayPasses_65 : decode cX6_dayPasses 65 = .ok (.if_icmp .eq 47, 3) := by decide +kernel
theorem dX6_dayPasses_68 : decode cX6_dayPasses 68 = .ok (.aload_n 0, 1) := by decide +kernel
theorem dX6_dayPasses_69 : decode cX6_dayPasses 69 = .ok (.iload_n 2, 1) := by decide +kernel
theorem dX6_dayPasses_70 : decode cX6_dayPasses 70 = .ok (.iconst 0, 1) := by decide +kernel
theorem dX6_dayPasses_71 : decode cX6_dayPasses 71 = .ok (.invokevirtual 59, 3) := by decide +kernel
theorem dX6_dayPasses_74 : decode cX6_dayPasses 74 = .ok (.istore_n 3, 1) := by decide +kernel
theorem dX6_dayPasses_75 : decode cX6_dayPasses 75 = .ok (.aload_n 0, 1) := by decide +kernel
theorem dX6_dayPasses_76 : decode cX6_dayPasses 76 = .ok (.iload_n 2, 1) := by decide +kernel
theorem dX6_dayPasses_77 : decode cX6_dayPasses 77 = .ok (.invokevirtual 62, 3) := by decide +kernel
theorem dX6_dayPasses_80 : decode cX6_dayPasses 80 = .ok (.aload_n 0, 1) := by decide +kernel
theorem dX6_dayPasses_81 : decode cX6_dayPasses 81 = .ok (.iload_n 3, 1) := by decide +kernel
theorem dX6_dayPasses_82 : decode cX6_dayPasses 82 = .ok (.invokevirtual 41, 3) := by decide +kernel
theorem dX6_dayPasses_85 : decode cX6_dayPasses 85 = .ok (.ifCond .eq 11, 3) := by decide +kernel
theorem dX6_dayPasses_88 : decode cX6_dayPasses 88 = .ok (.aload_n 0, 1) := by decide +kernel
theorem dX6_dayPasses_89 : decode cX6_dayPasses 89 = .ok (.iload_n 3, 1) := by decide +kernel
theorem dX6_dayPasses_90 : decode cX6_dayPasses 90 = .ok (.invokevirtual 96, 3) := by decide +kernel
theorem dX6_dayPasses_93 : decode cX6_dayPasses 93 = .ok (.goto 4, 3) := by decide +kernel
theorem dX6_dayPasses_96 : decode cX6_dayPasses 96 = .ok (.iconst 0, 1) := by decide +kernel
theorem dX6_dayPasses_97 : decode cX6_dayPasses 97 = .ok (.istore 4, 2) := by decide +kernel
theorem dX6_dayPasses_99 : decode cX6_dayPasses 99 = .ok (.iload_n 1, 1) := by decide +kernel
theorem dX6_dayPasses_100 : decode cX6_dayPasses 100 = .ok (.iload 4, 2) := by decide +kernel
theorem dX6_dayPasses_102 : decode cX6_dayPasses 102 = .ok (.iadd, 1) := by decide +kernel
theorem dX6_dayPasses_103 : decode cX6_dayPasses 103 = .ok (.istore_n 1, 1) := by decide +kernel
theorem dX6_dayPasses_104 : decode cX6_dayPasses 104 = .ok (.aload_n 0, 1) := by decide +kernel
theorem dX6_dayPasses_105 : decode cX6_dayPasses 105 = .ok (.invokevirtual 129, 3) := by decide +kernel
theorem dX6_dayPasses_108 : decode cX6_dayPasses 108 = .ok (.istore_n 2, 1) := by decide +kernel
theorem dX6_dayPasses_109 : decode cX6_dayPasses 109 = .ok (.goto (-46), 3) := by decide +kernel
theorem dX6_dayPasses_112 : decode cX6_dayPasses 112 = .ok (.aload_n 0, 1) := by decide +kernel
theorem dX6_dayPasses_113 : decode cX6_dayPasses 113 = .ok (.getfield 7, 3) := by decide +kernel
theorem dX6_dayPasses_116 : decode cX6_dayPasses 116 = .ok (.bipush 10, 2) := by decide +kernel
theorem dX6_dayPasses_118 : decode cX6_dayPasses 118 = .ok (.dup2, 1) := by decide +kernel
theorem dX6_dayPasses_119 : decode cX6_dayPasses 119 = .ok (.iaload, 1) := by decide +kernel
theorem dX6_dayPasses_120 : decode cX6_dayPasses 120 = .ok (.iload_n 1, 1) := by decide +kernel
theorem dX6_dayPasses_121 : decode cX6_dayPasses 121 = .ok (.iadd, 1) := by decide +kernel
theorem dX6_dayPasses_122 : decode cX6_dayPasses 122 = .ok (.iastore, 1) := by decide +kernel
theorem dX6_dayPasses_123 : decode cX6_dayPasses 123 = .ok (.iload_n 1, 1) := by decide +kernel
theorem dX6_dayPasses_124 : decode cX6_dayPasses 124 = .ok (.ireturn, 1) := by decide +kernel
set_option maxRecDepth 20000 in
theorem ggX6_pass_X6_within : GoodIn wsX6_pass wsX6_within := goodIn_r _ [6] (by decide +kernel) (by decide +kernel)
set_option maxRecDepth 20000 in
theorem gX6_pass_X6_within : GoodIn wsX6_pass (va_wsS RX6 29 yX6_within wsX6_within) := goodIn_app (goodIn_of _ (by decide +kernel)) ggX6_pass_X6_within
set_option maxRecDepth 20000 in
theorem ggX6_pass_X6_save : GoodIn wsX6_pass wsX6_save := goodIn_r _ [10, 11, 12, 1, 59, 60, 61, 62, 63, 64, 65, 66, 67, 68, 69] (by decide +kernel) (by decide +kernel)
set_option maxRecDepth 20000 in
theorem gX6_pass_X6_save : GoodIn wsX6_pass (wsV RX6 93 RX6 yX6_save wsX6_save) := goodIn_app (goodIn_of _ (by decide +kernel)) ggX6_pass_X6_save
set_option maxRecDepth 20000 in
theorem ggX6_pass_X6_dayPasses : GoodIn wsX6_pass wsX6_dayPasses := goodIn_r _ [16, 1, 17, 18, 19, 5, 20, 21, 22, 23, 24, 25, 26, 27, 28, 29, 30, 31, 32, 33, 34, 35, 36, 37, 38, 39, 40, 41, 42, 43, 44, 45, 46, 47, 48, 49, 50, 51, 52, 53, 54, 55, 56, 57, 58, 59, 60, 61, 62, 63, 64, 65, 66, 67, 68, 69] (by decide +kernel) (by decide +kernel)
set_option maxRecDepth 20000 in
theorem gX6_pass_X6_dayPasses : GoodIn wsX6_pass (wsV RX6 133 RX6 yX6_dayPasses wsX6_dayPasses) := goodIn_app (goodIn_of _ (by decide +kernel)) ggX6_pass_X6_dayPasses
theorem dX6_pass_0 : decode cX6_pass 0 = .ok (.aload_n 0, 1) := by decide +kernel
theorem dX6_pass_1 : decode cX6_pass 1 = .ok (.iload_n 1, 1) := by decide +kernel
theorem dX6_pass_2 : decode cX6_pass 2 = .ok (.iconst 1, 1) := by decide +kernel
theorem dX6_pass_3 : decode cX6_pass 3 = .ok (.bipush 60, 2) := by decide +kernel
theorem dX6_pass_5 : decode cX6_pass 5 = .ok (.invokestatic 29, 3) := by decide +kernel
theorem dX6_pass_8 : decode cX6_pass 8 = .ok (.ifCond .ne 7, 3) := by decide +kernel
theorem dX6_pass_11 : decode cX6_pass 11 = .ok (.iconst 1, 1) := by decide +kernel
theorem dX6_pass_12 : decode cX6_pass 12 = .ok (.goto 22, 3) := by decide +kernel
theorem dX6_pass_15 : decode cX6_pass 15 = .ok (.aload_n 0, 1) := by decide +kernel
theorem dX6_pass_16 : decode cX6_pass 16 = .ok (.getfield 7, 3) := by decide +kernel
theorem dX6_pass_19 : decode cX6_pass 19 = .ok (.iconst 2, 1) := by decide +kernel
theorem dX6_pass_20 : decode cX6_pass 20 = .ok (.iaload, 1) := by decide +kernel
theorem dX6_pass_21 : decode cX6_pass 21 = .ok (.iload_n 1, 1) := by decide +kernel
theorem dX6_pass_22 : decode cX6_pass 22 = .ok (.iadd, 1) := by decide +kernel
theorem dX6_pass_23 : decode cX6_pass 23 = .ok (.sipush 5000, 3) := by decide +kernel
theorem dX6_pass_26 : decode cX6_pass 26 = .ok (.if_icmp .le 7, 3) := by decide +kernel
theorem dX6_pass_29 : decode cX6_pass 29 = .ok (.iconst 2, 1) := by decide +kernel
theorem dX6_pass_30 : decode cX6_pass 30 = .ok (.goto 4, 3) := by decide +kernel
theorem dX6_pass_33 : decode cX6_pass 33 = .ok (.iconst 0, 1) := by decide +kernel
theorem dX6_pass_34 : decode cX6_pass 34 = .ok (.putfield 22, 3) := by decide +kernel
theorem dX6_pass_37 : decode cX6_pass 37 = .ok (.aload_n 0, 1) := by decide +kernel
theorem dX6_pass_38 : decode cX6_pass 38 = .ok (.getfield 22, 3) := by decide +kernel
theorem dX6_pass_41 : decode cX6_pass 41 = .ok (.ifCond .le 5, 3) := by decide +kernel
theorem dX6_pass_44 : decode cX6_pass 44 = .ok (.iconst 0, 1) := by decide +kernel
theorem dX6_pass_45 : decode cX6_pass 45 = .ok (.ireturn, 1) := by decide +kernel
theorem dX6_pass_46 : decode cX6_pass 46 = .ok (.aload_n 0, 1) := by decide +kernel
theorem dX6_pass_47 : decode cX6_pass 47 = .ok (.invokevirtual 93, 3) := by decide +kernel
theorem dX6_pass_50 : decode cX6_pass 50 = .ok (.iconst 0, 1) := by decide +kernel
theorem dX6_pass_51 : decode cX6_pass 51 = .ok (.istore_n 2, 1) := by decide +kernel
theorem dX6_pass_52 : decode cX6_pass 52 = .ok (.iconst 0, 1) := by decide +kernel
theorem dX6_pass_53 : decode cX6_pass 53 = .ok (.istore_n 3, 1) := by decide +kernel
theorem dX6_pass_54 : decode cX6_pass 54 = .ok (.iload_n 3, 1) := by decide +kernel
theorem dX6_pass_55 : decode cX6_pass 55 = .ok (.iload_n 1, 1) := by decide +kernel
theorem dX6_pass_56 : decode cX6_pass 56 = .ok (.if_icmp .ge 20, 3) := by decide +kernel
theorem dX6_pass_59 : decode cX6_pass 59 = .ok (.aload_n 0, 1) := by decide +kernel
theorem dX6_pass_60 : decode cX6_pass 60 = .ok (.invokevirtual 133, 3) := by decide +kernel
theorem dX6_pass_63 : decode cX6_pass 63 = .ok (.istore 4, 2) := by decide +kernel
theorem dX6_pass_65 : decode cX6_pass 65 = .ok (.iload_n 2, 1) := by decide +kernel
theorem dX6_pass_66 : decode cX6_pass 66 = .ok (.iload 4, 2) := by decide +kernel
theorem dX6_pass_68 : decode cX6_pass 68 = .ok (.iadd, 1) := by decide +kernel
theorem dX6_pass_69 : decode cX6_pass 69 = .ok (.istore_n 2, 1) := by decide +kernel
theorem dX6_pass_70 : decode cX6_pass 70 = .ok (.iinc 3 1, 3) := by decide +kernel
theorem dX6_pass_73 : decode cX6_pass 73 = .ok (.goto (-19), 3) := by decide +kernel
theorem dX6_pass_76 : decode cX6_pass 76 = .ok (.iload_n 2, 1) := by decide +kernel
theorem dX6_pass_77 : decode cX6_pass 77 = .ok (.ireturn, 1) := by decide +kernel
set_option maxRecDepth 20000 in
theorem ggX6_isSetting_X6_within : GoodIn wsX6_isSetting wsX6_within := goodIn_r _ [4] (by decide +kernel) (by decide +kernel)
set_option maxRecDepth 20000 in
theorem gX6_isSetting_X6_within : GoodIn wsX6_isSetting (va_wsS RX6 29 yX6_within wsX6_within) := goodIn_app (goodIn_of _ (by decide +kernel)) ggX6_isSetting_X6_within
theorem dX6_isSetting_0 : decode cX6_isSetting 0 = .ok (.iload_n 0, 1) := by decide +kernel
theorem dX6_isSetting_1 : decode cX6_isSetting 1 = .ok (.iconst 0, 1) := by decide +kernel
theorem dX6_isSetting_2 : decode cX6_isSetting 2 = .ok (.iconst 1, 1) := by decide +kernel
theorem dX6_isSetting_3 : decode cX6_isSetting 3 = .ok (.invokestatic 29, 3) := by decide +kernel
theorem dX6_isSetting_6 : decode cX6_isSetting 6 = .ok (.ireturn, 1) := by decide +kernel
set_option maxRecDepth 20000 in
theorem ggX6_set_X6_isSetting : GoodIn wsX6_set wsX6_isSetting := goodIn_r _ [6, 7, 8, 5, 9] (by decide +kernel) (by decide +kernel)
set_option maxRecDepth 20000 in
theorem gX6_set_X6_isSetting : GoodIn wsX6_set (va_wsS RX6 136 yX6_isSetting wsX6_isSetting) := goodIn_app (goodIn_of _ (by decide +kernel)) ggX6_set_X6_isSetting
set_option maxRecDepth 20000 in
theorem ggX6_set_X6_within : GoodIn wsX6_set wsX6_within := goodIn_r _ [9] (by decide +kernel) (by decide +kernel)
set_option maxRecDepth 20000 in
theorem gX6_set_X6_within : GoodIn wsX6_set (va_wsS RX6 29 yX6_within wsX6_within) := goodIn_app (goodIn_of _ (by decide +kernel)) ggX6_set_X6_within
set_option maxRecDepth 20000 in
theorem ggX6_set_X6_save : GoodIn wsX6_set wsX6_save := goodIn_r _ [13, 14, 15, 2, 16, 17, 18, 19, 20, 21, 22, 23, 24, 25, 26] (by decide +kernel) (by decide +kernel)
set_option maxRecDepth 20000 in
theorem gX6_set_X6_save : GoodIn wsX6_set (wsV RX6 93 RX6 yX6_save wsX6_save) := goodIn_app (goodIn_of _ (by decide +kernel)) ggX6_set_X6_save
theorem dX6_set_0 : decode cX6_set 0 = .ok (.aload_n 0, 1) := by decide +kernel
theorem dX6_set_1 : decode cX6_set 1 = .ok (.iload_n 1, 1) := by decide +kernel
theorem dX6_set_2 : decode cX6_set 2 = .ok (.invokestatic 136, 3) := by decide +kernel
theorem dX6_set_5 : decode cX6_set 5 = .ok (.ifCond .ne 7, 3) := by decide +kernel
theorem dX6_set_8 : decode cX6_set 8 = .ok (.iconst 1, 1) := by decide +kernel
theorem dX6_set_9 : decode cX6_set 9 = .ok (.goto 37, 3) := by decide +kernel
theorem dX6_set_12 : decode cX6_set 12 = .ok (.iload_n 1, 1) := by decide +kernel
theorem dX6_set_13 : decode cX6_set 13 = .ok (.ifCond .ne 13, 3) := by decide +kernel
theorem dX6_set_16 : decode cX6_set 16 = .ok (.iload_n 2, 1) := by decide +kernel
theorem dX6_set_17 : decode cX6_set 17 = .ok (.iconst 0, 1) := by decide +kernel
theorem dX6_set_18 : decode cX6_set 18 = .ok (.bipush 30, 2) := by decide +kernel
theorem dX6_set_20 : decode cX6_set 20 = .ok (.invokestatic 29, 3) := by decide +kernel
theorem dX6_set_23 : decode cX6_set 23 = .ok (.ifCond .ne 18, 3) := by decide +kernel
theorem dX6_set_26 : decode cX6_set 26 = .ok (.iload_n 1, 1) := by decide +kernel
theorem dX6_set_27 : decode cX6_set 27 = .ok (.iconst 1, 1) := by decide +kernel
theorem dX6_set_28 : decode cX6_set 28 = .ok (.if_icmp .ne 17, 3) := by decide +kernel
theorem dX6_set_31 : decode cX6_set 31 = .ok (.iload_n 2, 1) := by decide +kernel
theorem dX6_set_32 : decode cX6_set 32 = .ok (.iconst 1, 1) := by decide +kernel
theorem dX6_set_33 : decode cX6_set 33 = .ok (.bipush 12, 2) := by decide +kernel
theorem dX6_set_35 : decode cX6_set 35 = .ok (.invokestatic 29, 3) := by decide +kernel
theorem dX6_set_38 : decode cX6_set 38 = .ok (.ifCond .eq 7, 3) := by decide +kernel
theorem dX6_set_41 : decode cX6_set 41 = .ok (.iconst 0, 1) := by decide +kernel
theorem dX6_set_42 : decode cX6_set 42 = .ok (.goto 4, 3) := by decide +kernel
theorem dX6_set_45 : decode cX6_set 45 = .ok (.iconst 2, 1) := by decide +kernel
theorem dX6_set_46 : decode cX6_set 46 = .ok (.putfield 22, 3) := by decide +kernel
theorem dX6_set_49 : decode cX6_set 49 = .ok (.aload_n 0, 1) := by decide +kernel
theorem dX6_set_50 : decode cX6_set 50 = .ok (.getfield 22, 3) := by decide +kernel
theorem dX6_set_53 : decode cX6_set 53 = .ok (.ifCond .le 5, 3) := by decide +kernel
theorem dX6_set_56 : decode cX6_set 56 = .ok (.iconst 0, 1) := by decide +kernel
theorem dX6_set_57 : decode cX6_set 57 = .ok (.ireturn, 1) := by decide +kernel
theorem dX6_set_58 : decode cX6_set 58 = .ok (.aload_n 0, 1) := by decide +kernel
theorem dX6_set_59 : decode cX6_set 59 = .ok (.invokevirtual 93, 3) := by decide +kernel
theorem dX6_set_62 : decode cX6_set 62 = .ok (.aload_n 0, 1) := by decide +kernel
theorem dX6_set_63 : decode cX6_set 63 = .ok (.getfield 7, 3) := by decide +kernel
theorem dX6_set_66 : decode cX6_set 66 = .ok (.iload_n 1, 1) := by decide +kernel
theorem dX6_set_67 : decode cX6_set 67 = .ok (.iaload, 1) := by decide +kernel
theorem dX6_set_68 : decode cX6_set 68 = .ok (.istore_n 3, 1) := by decide +kernel
theorem dX6_set_69 : decode cX6_set 69 = .ok (.aload_n 0, 1) := by decide +kernel
theorem dX6_set_70 : decode cX6_set 70 = .ok (.getfield 7, 3) := by decide +kernel
theorem dX6_set_73 : decode cX6_set 73 = .ok (.iload_n 1, 1) := by decide +kernel
theorem dX6_set_74 : decode cX6_set 74 = .ok (.iload_n 2, 1) := by decide +kernel
theorem dX6_set_75 : decode cX6_set 75 = .ok (.iastore, 1) := by decide +kernel
theorem dX6_set_76 : decode cX6_set 76 = .ok (.iload_n 3, 1) := by decide +kernel
theorem dX6_set_77 : decode cX6_set 77 = .ok (.ireturn, 1) := by decide +kernel
set_option maxRecDepth 20000 in
theorem ggX6_append_X6_within : GoodIn wsX6_append wsX6_within := goodIn_r _ [7] (by decide +kernel) (by decide +kernel)
set_option maxRecDepth 20000 in
theorem gX6_append_X6_within : GoodIn wsX6_append (va_wsS RX6 29 yX6_within wsX6_within) := goodIn_app (goodIn_of _ (by decide +kernel)) ggX6_append_X6_within
theorem dX6_append_0 : decode cX6_append 0 = .ok (.aload_n 0, 1) := by decide +kernel
theorem dX6_append_1 : decode cX6_append 1 = .ok (.iload_n 1, 1) := by decide +kernel
theorem dX6_append_2 : decode cX6_append 2 = .ok (.bipush 33, 2) := by decide +kernel
theorem dX6_append_4 : decode cX6_append 4 = .ok (.bipush 126, 2) := by decide +kernel
theorem dX6_append_6 : decode cX6_append 6 = .ok (.invokestatic 29, 3) := by decide +kernel
theorem dX6_append_9 : decode cX6_append 9 = .ok (.ifCond .ne 7, 3) := by decide +kernel
theorem dX6_append_12 : decode cX6_append 12 = .ok (.iconst 1, 1) := by decide +kernel
theorem dX6_append_13 : decode cX6_append 13 = .ok (.goto 17, 3) := by decide +kernel
theorem dX6_append_16 : decode cX6_append 16 = .ok (.aload_n 0, 1) := by decide +kernel
theorem dX6_append_17 : decode cX6_append 17 = .ok (.getfield 139, 3) := by decide +kernel
theorem dX6_append_20 : decode cX6_append 20 = .ok (.bipush 60, 2) := by decide +kernel
theorem dX6_append_22 : decode cX6_append 22 = .ok (.if_icmp .ne 7, 3) := by decide +kernel
theorem dX6_append_25 : decode cX6_append 25 = .ok (.iconst 2, 1) := by decide +kernel
theorem dX6_append_26 : decode cX6_append 26 = .ok (.goto 4, 3) := by decide +kernel
theorem dX6_append_29 : decode cX6_append 29 = .ok (.iconst 0, 1) := by decide +kernel
theorem dX6_append_30 : decode cX6_append 30 = .ok (.putfield 22, 3) := by decide +kernel
theorem dX6_append_33 : decode cX6_append 33 = .ok (.aload_n 0, 1) := by decide +kernel
theorem dX6_append_34 : decode cX6_append 34 = .ok (.getfield 22, 3) := by decide +kernel
theorem dX6_append_37 : decode cX6_append 37 = .ok (.ifCond .le 5, 3) := by decide +kernel
theorem dX6_append_40 : decode cX6_append 40 = .ok (.iconst 0, 1) := by decide +kernel
theorem dX6_append_41 : decode cX6_append 41 = .ok (.ireturn, 1) := by decide +kernel
theorem dX6_append_42 : decode cX6_append 42 = .ok (.aload_n 0, 1) := by decide +kernel
theorem dX6_append_43 : decode cX6_append 43 = .ok (.getfield 16, 3) := by decide +kernel
theorem dX6_append_46 : decode cX6_append 46 = .ok (.aload_n 0, 1) := by decide +kernel
theorem dX6_append_47 : decode cX6_append 47 = .ok (.getfield 139, 3) := by decide +kernel
theorem dX6_append_50 : decode cX6_append 50 = .ok (.iload_n 1, 1) := by decide +kernel
theorem dX6_append_51 : decode cX6_append 51 = .ok (.iastore, 1) := by decide +kernel
theorem dX6_append_52 : decode cX6_append 52 = .ok (.aload_n 0, 1) := by decide +kernel
theorem dX6_append_53 : decode cX6_append 53 = .ok (.dup, 1) := by decide +kernel
theorem dX6_append_54 : decode cX6_append 54 = .ok (.getfield 139, 3) := by decide +kernel
theorem dX6_append_57 : decode cX6_append 57 = .ok (.iconst 1, 1) := by decide +kernel
theorem dX6_append_58 : decode cX6_append 58 = .ok (.iadd, 1) := by decide +kernel
theorem dX6_append_59 : decode cX6_append 59 = .ok (.putfield 139, 3) := by decide +kernel
theorem dX6_append_62 : decode cX6_append 62 = .ok (.aload_n 0, 1) := by decide +kernel
theorem dX6_append_63 : decode cX6_append 63 = .ok (.getfield 139, 3) := by decide +kernel
theorem dX6_append_66 : decode cX6_append 66 = .ok (.ireturn, 1) := by decide +kernel
theorem dX6_clearBuffer_0 : decode cX6_clearBuffer 0 = .ok (.aload_n 0, 1) := by decide +kernel
theorem dX6_clearBuffer_1 : decode cX6_clearBuffer 1 = .ok (.iconst 0, 1) := by decide +kernel
theorem dX6_clearBuffer_2 : decode cX6_clearBuffer 2 = .ok (.putfield 22, 3) := by decide +kernel
theorem dX6_clearBuffer_5 : decode cX6_clearBuffer 5 = .ok (.aload_n 0, 1) := by decide +kernel
theorem dX6_clearBuffer_6 : decode cX6_clearBuffer 6 = .ok (.getfield 139, 3) := by decide +kernel
theorem dX6_clearBuffer_9 : decode cX6_clearBuffer 9 = .ok (.istore_n 1, 1) := by decide +kernel
theorem dX6_clearBuffer_10 : decode cX6_clearBuffer 10 = .ok (.aload_n 0, 1) := by decide +kernel
theorem dX6_clearBuffer_11 : decode cX6_clearBuffer 11 = .ok (.iconst 0, 1) := by decide +kernel
theorem dX6_clearBuffer_12 : decode cX6_clearBuffer 12 = .ok (.putfield 139, 3) := by decide +kernel
theorem dX6_clearBuffer_15 : decode cX6_clearBuffer 15 = .ok (.iload_n 1, 1) := by decide +kernel
theorem dX6_clearBuffer_16 : decode cX6_clearBuffer 16 = .ok (.ireturn, 1) := by decide +kernel
set_option maxRecDepth 20000 in
theorem ggX6_takesDigit_X6_within : GoodIn wsX6_takesDigit wsX6_within := goodIn_r _ [8] (by decide +kernel) (by decide +kernel)
set_option maxRecDepth 20000 in
theorem gX6_takesDigit_X6_within : GoodIn wsX6_takesDigit (va_wsS RX6 29 yX6_within wsX6_within) := goodIn_app (goodIn_of _ (by decide +kernel)) ggX6_takesDigit_X6_within
set_option maxRecDepth 20000 in
theorem ggX6_takesDigit_X6_isMoney : GoodIn wsX6_takesDigit wsX6_isMoney := goodIn_r _ [11, 5, 6, 7, 8] (by decide +kernel) (by decide +kernel)
set_option maxRecDepth 20000 in
theorem gX6_takesDigit_X6_isMoney : GoodIn wsX6_takesDigit (va_wsS RX6 84 yX6_isMoney wsX6_isMoney) := goodIn_app (goodIn_of _ (by decide +kernel)) ggX6_takesDigit_X6_isMoney
theorem dX6_takesDigit_0 : decode cX6_takesDigit 0 = .ok (.aload_n 0, 1) := by decide +kernel
theorem dX6_takesDigit_1 : decode cX6_takesDigit 1 = .ok (.getfield 142, 3) := by decide +kernel
theorem dX6_takesDigit_4 : decode cX6_takesDigit 4 = .ok (.iconst (-1), 1) := by decide +kernel
theorem dX6_takesDigit_5 : decode cX6_takesDigit 5 = .ok (.if_icmp .ne 7, 3) := by decide +kernel
theorem dX6_takesDigit_8 : decode cX6_takesDigit 8 = .ok (.iload_n 1, 1) := by decide +kernel
theorem dX6_takesDigit_9 : decode cX6_takesDigit 9 = .ok (.goto 12, 3) := by decide +kernel
theorem dX6_takesDigit_12 : decode cX6_takesDigit 12 = .ok (.bipush 10, 2) := by decide +kernel
theorem dX6_takesDigit_14 : decode cX6_takesDigit 14 = .ok (.aload_n 0, 1) := by decide +kernel
theorem dX6_takesDigit_15 : decode cX6_takesDigit 15 = .ok (.getfield 142, 3) := by decide +kernel
theorem dX6_takesDigit_18 : decode cX6_takesDigit 18 = .ok (.imul, 1) := by decide +kernel
theorem dX6_takesDigit_19 : decode cX6_takesDigit 19 = .ok (.iload_n 1, 1) := by decide +kernel
theorem dX6_takesDigit_20 : decode cX6_takesDigit 20 = .ok (.iadd, 1) := by decide +kernel
theorem dX6_takesDigit_21 : decode cX6_takesDigit 21 = .ok (.istore_n 2, 1) := by decide +kernel
theorem dX6_takesDigit_22 : decode cX6_takesDigit 22 = .ok (.iload_n 1, 1) := by decide +kernel
theorem dX6_takesDigit_23 : decode cX6_takesDigit 23 = .ok (.iconst 0, 1) := by decide +kernel
theorem dX6_takesDigit_24 : decode cX6_takesDigit 24 = .ok (.bipush 9, 2) := by decide +kernel
theorem dX6_takesDigit_26 : decode cX6_takesDigit 26 = .ok (.invokestatic 29, 3) := by decide +kernel
theorem dX6_takesDigit_29 : decode cX6_takesDigit 29 = .ok (.ifCond .eq 38, 3) := by decide +kernel
theorem dX6_takesDigit_32 : decode cX6_takesDigit 32 = .ok (.aload_n 0, 1) := by decide +kernel
theorem dX6_takesDigit_33 : decode cX6_takesDigit 33 = .ok (.getfield 142, 3) := by decide +kernel
theorem dX6_takesDigit_36 : decode cX6_takesDigit 36 = .ok (.ifCond .eq 31, 3) := by decide +kernel
theorem dX6_takesDigit_39 : decode cX6_takesDigit 39 = .ok (.aload_n 0, 1) := by decide +kernel
theorem dX6_takesDigit_40 : decode cX6_takesDigit 40 = .ok (.getfield 145, 3) := by decide +kernel
theorem dX6_takesDigit_43 : decode cX6_takesDigit 43 = .ok (.iconst 1, 1) := by decide +kernel
theorem dX6_takesDigit_44 : decode cX6_takesDigit 44 = .ok (.if_icmp .ne 12, 3) := by decide +kernel
theorem dX6_takesDigit_47 : decode cX6_takesDigit 47 = .ok (.iload_n 2, 1) := by decide +kernel
theorem dX6_takesDigit_48 : decode cX6_takesDigit 48 = .ok (.bipush 12, 2) := by decide +kernel
theorem dX6_takesDigit_50 : decode cX6_takesDigit 50 = .ok (.if_icmp .ge 17, 3) := by decide +kernel
theorem dX6_takesDigit_53 : decode cX6_takesDigit 53 = .ok (.goto 10, 3) := by decide +kernel
theorem dX6_takesDigit_56 : decode cX6_takesDigit 56 = .ok (.iload_n 2, 1) := by decide +kernel
theorem dX6_takesDigit_57 : decode cX6_takesDigit 57 = .ok (.invokestatic 84, 3) := by decide +kernel
theorem dX6_takesDigit_60 : decode cX6_takesDigit 60 = .ok (.ifCond .eq 7, 3) := by decide +kernel
theorem dX6_takesDigit_63 : decode cX6_takesDigit 63 = .ok (.iconst 1, 1) := by decide +kernel
theorem dX6_takesDigit_64 : decode cX6_takesDigit 64 = .ok (.goto 4, 3) := by decide +kernel
theorem dX6_takesDigit_67 : decode cX6_takesDigit 67 = .ok (.iconst 0, 1) := by decide +kernel
theorem dX6_takesDigit_68 : decode cX6_takesDigit 68 = .ok (.istore_n 3, 1) := by decide +kernel
theorem dX6_takesDigit_69 : decode cX6_takesDigit 69 = .ok (.aload_n 0, 1) := by decide +kernel
theorem dX6_takesDigit_70 : decode cX6_takesDigit 70 = .ok (.iload_n 3, 1) := by decide +kernel
theorem dX6_takesDigit_71 : decode cX6_takesDigit 71 = .ok (.ifCond .eq 7, 3) := by decide +kernel
theorem dX6_takesDigit_74 : decode cX6_takesDigit 74 = .ok (.iload_n 2, 1) := by decide +kernel
theorem dX6_takesDigit_75 : decode cX6_takesDigit 75 = .ok (.goto 7, 3) := by decide +kernel
theorem dX6_takesDigit_78 : decode cX6_takesDigit 78 = .ok (.aload_n 0, 1) := by decide +kernel
theorem dX6_takesDigit_79 : decode cX6_takesDigit 79 = .ok (.getfield 142, 3) := by decide +kernel
theorem dX6_takesDigit_82 : decode cX6_takesDigit 82 = .ok (.putfield 142, 3) := by decide +kernel
theorem dX6_takesDigit_85 : decode cX6_takesDigit 85 = .ok (.aload_n 0, 1) := by decide +kernel
theorem dX6_takesDigit_86 : decode cX6_takesDigit 86 = .ok (.getfield 19, 3) := by decide +kernel
theorem dX6_takesDigit_89 : decode cX6_takesDigit 89 = .ok (.iconst 3, 1) := by decide +kernel
theorem dX6_takesDigit_90 : decode cX6_takesDigit 90 = .ok (.aload_n 0, 1) := by decide +kernel
theorem dX6_takesDigit_91 : decode cX6_takesDigit 91 = .ok (.getfield 148, 3) := by decide +kernel
theorem dX6_takesDigit_94 : decode cX6_takesDigit 94 = .ok (.imul, 1) := by decide +kernel
theorem dX6_takesDigit_95 : decode cX6_takesDigit 95 = .ok (.aload_n 0, 1) := by decide +kernel
theorem dX6_takesDigit_96 : decode cX6_takesDigit 96 = .ok (.getfield 145, 3) := by decide +kernel
theorem dX6_takesDigit_99 : decode cX6_takesDigit 99 = .ok (.iadd, 1) := by decide +kernel
theorem dX6_takesDigit_100 : decode cX6_takesDigit 100 = .ok (.aload_n 0, 1) := by decide +kernel
theorem dX6_takesDigit_101 : decode cX6_takesDigit 101 = .ok (.getfield 142, 3) := by decide +kernel
theorem dX6_takesDigit_104 : decode cX6_takesDigit 104 = .ok (.iastore, 1) := by decide +kernel
theorem dX6_takesDigit_105 : decode cX6_takesDigit 105 = .ok (.iload_n 3, 1) := by decide +kernel
theorem dX6_takesDigit_106 : decode cX6_takesDigit 106 = .ok (.ireturn, 1) := by decide +kernel
set_option maxRecDepth 20000 in
theorem ggX6_takes_X6_takesDigit : GoodIn wsX6_takes wsX6_takesDigit := goodIn_r _ [9, 4, 1, 2, 3, 10, 11, 8, 12, 13, 14, 15, 16, 17, 18, 19, 20, 21, 22, 23, 24, 25, 26] (by decide +kernel) (by decide +kernel)
set_option maxRecDepth 20000 in
theorem gX6_takes_X6_takesDigit : GoodIn wsX6_takes (wsV RX6 151 RX6 yX6_takesDigit wsX6_takesDigit) := goodIn_app (goodIn_of _ (by decide +kernel)) ggX6_takes_X6_takesDigit
theorem dX6_takes_0 : decode cX6_takes 0 = .ok (.aload_n 0, 1) := by decide +kernel
theorem dX6_takes_1 : decode cX6_takes 1 = .ok (.getfield 145, 3) := by decide +kernel
theorem dX6_takes_4 : decode cX6_takes 4 = .ok (.ifCond .ne 53, 3) := by decide +kernel
theorem dX6_takes_7 : decode cX6_takes 7 = .ok (.aload_n 0, 1) := by decide +kernel
theorem dX6_takes_8 : decode cX6_takes 8 = .ok (.getfield 19, 3) := by decide +kernel
theorem dX6_takes_11 : decode cX6_takes 11 = .ok (.iconst 3, 1) := by decide +kernel
theorem dX6_takes_12 : decode cX6_takes 12 = .ok (.aload_n 0, 1) := by decide +kernel
theorem dX6_takes_13 : decode cX6_takes 13 = .ok (.getfield 148, 3) := by decide +kernel
theorem dX6_takes_16 : decode cX6_takes 16 = .ok (.imul, 1) := by decide +kernel
theorem dX6_takes_17 : decode cX6_takes 17 = .ok (.iload_n 1, 1) := by decide +kernel
theorem dX6_takes_18 : decode cX6_takes 18 = .ok (.bipush 117, 2) := by decide +kernel
theorem dX6_takes_20 : decode cX6_takes 20 = .ok (.if_icmp .ne 7, 3) := by decide +kernel
theorem dX6_takes_23 : decode cX6_takes 23 = .ok (.iconst 1, 1) := by decide +kernel
theorem dX6_takes_24 : decode cX6_takes 24 = .ok (.goto 4, 3) := by decide +kernel
theorem dX6_takes_27 : decode cX6_takes 27 = .ok (.iconst 0, 1) := by decide +kernel
theorem dX6_takes_28 : decode cX6_takes 28 = .ok (.iastore, 1) := by decide +kernel
theorem dX6_takes_29 : decode cX6_takes 29 = .ok (.aload_n 0, 1) := by decide +kernel
theorem dX6_takes_30 : decode cX6_takes 30 = .ok (.iconst (-1), 1) := by decide +kernel
theorem dX6_takes_31 : decode cX6_takes 31 = .ok (.putfield 142, 3) := by decide +kernel
theorem dX6_takes_34 : decode cX6_takes 34 = .ok (.aload_n 0, 1) := by decide +kernel
theorem dX6_takes_35 : decode cX6_takes 35 = .ok (.iconst 1, 1) := by decide +kernel
theorem dX6_takes_36 : decode cX6_takes 36 = .ok (.putfield 145, 3) := by decide +kernel
theorem dX6_takes_39 : decode cX6_takes 39 = .ok (.iload_n 1, 1) := by decide +kernel
theorem dX6_takes_40 : decode cX6_takes 40 = .ok (.bipush 115, 2) := by decide +kernel
theorem dX6_takes_42 : decode cX6_takes 42 = .ok (.if_icmp .eq 9, 3) := by decide +kernel
theorem dX6_takes_45 : decode cX6_takes 45 = .ok (.iload_n 1, 1) := by decide +kernel
theorem dX6_takes_46 : decode cX6_takes 46 = .ok (.bipush 117, 2) := by decide +kernel
theorem dX6_takes_48 : decode cX6_takes 48 = .ok (.if_icmp .ne 7, 3) := by decide +kernel
theorem dX6_takes_51 : decode cX6_takes 51 = .ok (.iconst 1, 1) := by decide +kernel
theorem dX6_takes_52 : decode cX6_takes 52 = .ok (.goto 4, 3) := by decide +kernel
theorem dX6_takes_55 : decode cX6_takes 55 = .ok (.iconst 0, 1) := by decide +kernel
theorem dX6_takes_56 : decode cX6_takes 56 = .ok (.ireturn, 1) := by decide +kernel
theorem dX6_takes_57 : decode cX6_takes 57 = .ok (.aload_n 0, 1) := by decide +kernel
theorem dX6_takes_58 : decode cX6_takes 58 = .ok (.getfield 145, 3) := by decide +kernel
theorem dX6_takes_61 : decode cX6_takes 61 = .ok (.iconst 1, 1) := by decide +kernel
theorem dX6_takes_62 : decode cX6_takes 62 = .ok (.if_icmp .ne 29, 3) := by decide +kernel
theorem dX6_takes_65 : decode cX6_takes 65 = .ok (.iload_n 1, 1) := by decide +kernel
theorem dX6_takes_66 : decode cX6_takes 66 = .ok (.bipush 58, 2) := by decide +kernel
theorem dX6_takes_68 : decode cX6_takes 68 = .ok (.if_icmp .ne 23, 3) := by decide +kernel
theorem dX6_takes_71 : decode cX6_takes 71 = .ok (.aload_n 0, 1) := by decide +kernel
theorem dX6_takes_72 : decode cX6_takes 72 = .ok (.getfield 142, 3) := by decide +kernel
theorem dX6_takes_75 : decode cX6_takes 75 = .ok (.iconst (-1), 1) := by decide +kernel
theorem dX6_takes_76 : decode cX6_takes 76 = .ok (.if_icmp .eq 15, 3) := by decide +kernel
theorem dX6_takes_79 : decode cX6_takes 79 = .ok (.aload_n 0, 1) := by decide +kernel
theorem dX6_takes_80 : decode cX6_takes 80 = .ok (.iconst (-1), 1) := by decide +kernel
theorem dX6_takes_81 : decode cX6_takes 81 = .ok (.putfield 142, 3) := by decide +kernel
theorem dX6_takes_84 : decode cX6_takes 84 = .ok (.aload_n 0, 1) := by decide +kernel
theorem dX6_takes_85 : decode cX6_takes 85 = .ok (.iconst 2, 1) := by decide +kernel
theorem dX6_takes_86 : decode cX6_takes 86 = .ok (.putfield 145, 3) := by decide +kernel
theorem dX6_takes_89 : decode cX6_takes 89 = .ok (.iconst 1, 1) := by decide +kernel
theorem dX6_takes_90 : decode cX6_takes 90 = .ok (.ireturn, 1) := by decide +kernel
theorem dX6_takes_91 : decode cX6_takes 91 = .ok (.aload_n 0, 1) := by decide +kernel
theorem dX6_takes_92 : decode cX6_takes 92 = .ok (.getfield 145, 3) := by decide +kernel
theorem dX6_takes_95 : decode cX6_takes 95 = .ok (.iconst 2, 1) := by decide +kernel
theorem dX6_takes_96 : decode cX6_takes 96 = .ok (.if_icmp .ne 34, 3) := by decide +kernel
theorem dX6_takes_99 : decode cX6_takes 99 = .ok (.iload_n 1, 1) := by decide +kernel
theorem dX6_takes_100 : decode cX6_takes 100 = .ok (.bipush 59, 2) := by decide +kernel
theorem dX6_takes_102 : decode cX6_takes 102 = .ok (.if_icmp .ne 28, 3) := by decide +kernel
theorem dX6_takes_105 : decode cX6_takes 105 = .ok (.aload_n 0, 1) := by decide +kernel
theorem dX6_takes_106 : decode cX6_takes 106 = .ok (.getfield 142, 3) := by decide +kernel
theorem dX6_takes_109 : decode cX6_takes 109 = .ok (.iconst (-1), 1) := by decide +kernel
theorem dX6_takes_110 : decode cX6_takes 110 = .ok (.if_icmp .eq 20, 3) := by decide +kernel
theorem dX6_takes_113 : decode cX6_takes 113 = .ok (.aload_n 0, 1) := by decide +kernel
theorem dX6_takes_114 : decode cX6_takes 114 = .ok (.dup, 1) := by decide +kernel
theorem dX6_takes_115 : decode cX6_takes 115 = .ok (.getfield 148, 3) := by decide +kernel
theorem dX6_takes_118 : decode cX6_takes 118 = .ok (.iconst 1, 1) := by decide +kernel
theorem dX6_takes_119 : decode cX6_takes 119 = .ok (.iadd, 1) := by decide +kernel
theorem dX6_takes_120 : decode cX6_takes 120 = .ok (.putfield 148, 3) := by decide +kernel
theorem dX6_takes_123 : decode cX6_takes 123 = .ok (.aload_n 0, 1) := by decide +kernel
theorem dX6_takes_124 : decode cX6_takes 124 = .ok (.iconst 0, 1) := by decide +kernel
theorem dX6_takes_125 : decode cX6_takes 125 = .ok (.putfield 145, 3) := by decide +kernel
theorem dX6_takes_128 : decode cX6_takes 128 = .ok (.iconst 1, 1) := by decide +kernel
theorem dX6_takes_129 : decode cX6_takes 129 = .ok (.ireturn, 1) := by decide +kernel
theorem dX6_takes_130 : decode cX6_takes 130 = .ok (.aload_n 0, 1) := by decide +kernel
theorem dX6_takes_131 : decode cX6_takes 131 = .ok (.iload_n 1, 1) := by decide +kernel
theorem dX6_takes_132 : decode cX6_takes 132 = .ok (.bipush 48, 2) := by decide +kernel
theorem dX6_takes_134 : decode cX6_takes 134 = .ok (.isub, 1) := by decide +kernel
theorem dX6_takes_135 : decode cX6_takes 135 = .ok (.invokevirtual 151, 3) := by decide +kernel
theorem dX6_takes_138 : decode cX6_takes 138 = .ok (.ireturn, 1) := by decide +kernel
set_option maxRecDepth 20000 in
theorem ggX6_rightUpTo_X6_takes : GoodIn wsX6_rightUpTo wsX6_takes := goodIn_r _ [9, 2, 10, 1, 11, 12, 13, 14, 8, 15, 16, 17, 18, 19, 20, 21, 22, 23, 24, 25, 26, 27, 28, 29, 30, 31, 32] (by decide +kernel) (by decide +kernel)
set_option maxRecDepth 20000 in
theorem gX6_rightUpTo_X6_takes : GoodIn wsX6_rightUpTo (wsV RX6 154 RX6 yX6_takes wsX6_takes) := goodIn_app (goodIn_of _ (by decide +kernel)) ggX6_rightUpTo_X6_takes
theorem dX6_rightUpTo_0 : decode cX6_rightUpTo 0 = .ok (.aload_n 0, 1) := by decide +kernel
theorem dX6_rightUpTo_1 : decode cX6_rightUpTo 1 = .ok (.iconst 0, 1) := by decide +kernel
theorem dX6_rightUpTo_2 : decode cX6_rightUpTo 2 = .ok (.putfield 148, 3) := by decide +kernel
theorem dX6_rightUpTo_5 : decode cX6_rightUpTo 5 = .ok (.aload_n 0, 1) := by decide +kernel
theorem dX6_rightUpTo_6 : decode cX6_rightUpTo 6 = .ok (.iconst 0, 1) := by decide +kernel
theorem dX6_rightUpTo_7 : decode cX6_rightUpTo 7 = .ok (.putfield 145, 3) := by decide +kernel
theorem dX6_rightUpTo_10 : decode cX6_rightUpTo 10 = .ok (.iconst 0, 1) := by decide +kernel
theorem dX6_rightUpTo_11 : decode cX6_rightUpTo 11 = .ok (.istore_n 1, 1) := by decide +kernel
theorem dX6_rightUpTo_12 : decode cX6_rightUpTo 12 = .ok (.iload_n 1, 1) := by decide +kernel
theorem dX6_rightUpTo_13 : decode cX6_rightUpTo 13 = .ok (.aload_n 0, 1) := by decide +kernel
theorem dX6_rightUpTo_14 : decode cX6_rightUpTo 14 = .ok (.getfield 139, 3) := by decide +kernel
theorem dX6_rightUpTo_17 : decode cX6_rightUpTo 17 = .ok (.if_icmp .ge 22, 3) := by decide +kernel
theorem dX6_rightUpTo_20 : decode cX6_rightUpTo 20 = .ok (.aload_n 0, 1) := by decide +kernel
theorem dX6_rightUpTo_21 : decode cX6_rightUpTo 21 = .ok (.aload_n 0, 1) := by decide +kernel
theorem dX6_rightUpTo_22 : decode cX6_rightUpTo 22 = .ok (.getfield 16, 3) := by decide +kernel
theorem dX6_rightUpTo_25 : decode cX6_rightUpTo 25 = .ok (.iload_n 1, 1) := by decide +kernel
theorem dX6_rightUpTo_26 : decode cX6_rightUpTo 26 = .ok (.iaload, 1) := by decide +kernel
theorem dX6_rightUpTo_27 : decode cX6_rightUpTo 27 = .ok (.invokevirtual 154, 3) := by decide +kernel
theorem dX6_rightUpTo_30 : decode cX6_rightUpTo 30 = .ok (.ifCond .eq 9, 3) := by decide +kernel
theorem dX6_rightUpTo_33 : decode cX6_rightUpTo 33 = .ok (.iinc 1 1, 3) := by decide +kernel
theorem dX6_rightUpTo_36 : decode cX6_rightUpTo 36 = .ok (.goto (-24), 3) := by decide +kernel
theorem dX6_rightUpTo_39 : decode cX6_rightUpTo 39 = .ok (.iload_n 1, 1) := by decide +kernel
theorem dX6_rightUpTo_40 : decode cX6_rightUpTo 40 = .ok (.ireturn, 1) := by decide +kernel
set_option maxRecDepth 20000 in
theorem ggX6_firstError_X6_rightUpTo : GoodIn wsX6_firstError wsX6_rightUpTo := goodIn_r _ [6, 7, 8, 9, 10, 11, 12, 13, 5, 14, 15, 16, 17, 18, 19, 20, 21, 22, 23, 24, 25, 26, 27, 28, 29, 30, 31, 32, 33, 34, 35, 36, 37] (by decide +kernel) (by decide +kernel)
set_option maxRecDepth 20000 in
theorem gX6_firstError_X6_rightUpTo : GoodIn wsX6_firstError (wsV RX6 157 RX6 yX6_rightUpTo wsX6_rightUpTo) := goodIn_app (goodIn_of _ (by decide +kernel)) ggX6_firstError_X6_rightUpTo
theorem dX6_firstError_0 : decode cX6_firstError 0 = .ok (.aload_n 0, 1) := by decide +kernel
theorem dX6_firstError_1 : decode cX6_firstError 1 = .ok (.iconst 0, 1) := by decide +kernel
theorem dX6_firstError_2 : decode cX6_firstError 2 = .ok (.putfield 22, 3) := by decide +kernel
theorem dX6_firstError_5 : decode cX6_firstError 5 = .ok (.aload_n 0, 1) := by decide +kernel
theorem dX6_firstError_6 : decode cX6_firstError 6 = .ok (.invokevirtual 157, 3) := by decide +kernel
theorem dX6_firstError_9 : decode cX6_firstError 9 = .ok (.ireturn, 1) := by decide +kernel
set_option maxRecDepth 20000 in
theorem ggX6_carries_X6_isMandate : GoodIn wsX6_carries wsX6_isMandate := goodIn_r _ [6, 7, 8, 9, 5, 10, 51, 52, 53, 54, 55, 56, 57, 58, 59, 60, 61] (by decide +kernel) (by decide +kernel)
set_option maxRecDepth 20000 in
theorem gX6_carries_X6_isMandate : GoodIn wsX6_carries (wsV RX6 87 RX6 yX6_isMandate wsX6_isMandate) := goodIn_app (goodIn_of _ (by decide +kernel)) ggX6_carries_X6_isMandate
set_option maxRecDepth 20000 in
theorem ggX6_carries_X6_canAsk : GoodIn wsX6_carries wsX6_canAsk := goodIn_r _ [14, 7, 15, 16, 17, 5, 18, 19, 20, 21, 22, 23, 24, 25, 26, 27, 28, 29, 30, 31, 32, 33, 34, 51, 52, 53, 54, 55, 56, 57, 58, 59, 60, 61] (by decide +kernel) (by decide +kernel)
set_option maxRecDepth 20000 in
theorem gX6_carries_X6_canAsk : GoodIn wsX6_carries (wsV RX6 115 RX6 yX6_canAsk wsX6_canAsk) := goodIn_app (goodIn_of _ (by decide +kernel)) ggX6_carries_X6_canAsk
set_option maxRecDepth 20000 in
theorem ggX6_carries_X6_asks : GoodIn wsX6_carries wsX6_asks := goodIn_r _ [38, 7, 15, 16, 17, 5, 18, 39, 40, 41, 42, 43, 44, 45, 46, 47, 48, 49, 50, 51, 52, 53, 54, 55, 56, 57, 58, 59, 60, 61] (by decide +kernel) (by decide +kernel)
set_option maxRecDepth 20000 in
theorem gX6_carries_X6_asks : GoodIn wsX6_carries (wsV RX6 119 RX6 yX6_asks wsX6_asks) := goodIn_app (goodIn_of _ (by decide +kernel)) ggX6_carries_X6_asks
theorem dX6_carries_0 : decode cX6_carries 0 = .ok (.iconst 3, 1) := by decide +kernel
theorem dX6_carries_1 : decode cX6_carries 1 = .ok (.iload_n 1, 1) := by decide +kernel
theorem dX6_carries_2 : decode cX6_carries 2 = .ok (.imul, 1) := by decide +kernel
theorem dX6_carries_3 : decode cX6_carries 3 = .ok (.istore_n 2, 1) := by decide +kernel
theorem dX6_carries_4 : decode cX6_carries 4 = .ok (.aload_n 0, 1) := by decide +kernel
theorem dX6_carries_5 : decode cX6_carries 5 = .ok (.getfield 19, 3) := by decide +kernel
theorem dX6_carries_8 : decode cX6_carries 8 = .ok (.iload_n 2, 1) := by decide +kernel
theorem dX6_carries_9 : decode cX6_carries 9 = .ok (.iaload, 1) := by decide +kernel
theorem dX6_carries_10 : decode cX6_carries 10 = .ok (.iconst 1, 1) := by decide +kernel
theorem dX6_carries_11 : decode cX6_carries 11 = .ok (.if_icmp .ne 7, 3) := by decide +kernel
theorem dX6_carries_14 : decode cX6_carries 14 = .ok (.iconst 1, 1) := by decide +kernel
theorem dX6_carries_15 : decode cX6_carries 15 = .ok (.goto 4, 3) := by decide +kernel
theorem dX6_carries_18 : decode cX6_carries 18 = .ok (.iconst 0, 1) := by decide +kernel
theorem dX6_carries_19 : decode cX6_carries 19 = .ok (.istore_n 3, 1) := by decide +kernel
theorem dX6_carries_20 : decode cX6_carries 20 = .ok (.aload_n 0, 1) := by decide +kernel
theorem dX6_carries_21 : decode cX6_carries 21 = .ok (.aload_n 0, 1) := by decide +kernel
theorem dX6_carries_22 : decode cX6_carries 22 = .ok (.getfield 19, 3) := by decide +kernel
theorem dX6_carries_25 : decode cX6_carries 25 = .ok (.iload_n 2, 1) := by decide +kernel
theorem dX6_carries_26 : decode cX6_carries 26 = .ok (.iconst 1, 1) := by decide +kernel
theorem dX6_carries_27 : decode cX6_carries 27 = .ok (.iadd, 1) := by decide +kernel
theorem dX6_carries_28 : decode cX6_carries 28 = .ok (.iaload, 1) := by decide +kernel
theorem dX6_carries_29 : decode cX6_carries 29 = .ok (.invokevirtual 87, 3) := by decide +kernel
theorem dX6_carries_32 : decode cX6_carries 32 = .ok (.ifCond .eq 31, 3) := by decide +kernel
theorem dX6_carries_35 : decode cX6_carries 35 = .ok (.aload_n 0, 1) := by decide +kernel
theorem dX6_carries_36 : decode cX6_carries 36 = .ok (.aload_n 0, 1) := by decide +kernel
theorem dX6_carries_37 : decode cX6_carries 37 = .ok (.getfield 19, 3) := by decide +kernel
theorem dX6_carries_40 : decode cX6_carries 40 = .ok (.iload_n 2, 1) := by decide +kernel
theorem dX6_carries_41 : decode cX6_carries 41 = .ok (.iconst 1, 1) := by decide +kernel
theorem dX6_carries_42 : decode cX6_carries 42 = .ok (.iadd, 1) := by decide +kernel
theorem dX6_carries_43 : decode cX6_carries 43 = .ok (.iaload, 1) := by decide +kernel
theorem dX6_carries_44 : decode cX6_carries 44 = .ok (.aload_n 0, 1) := by decide +kernel
theorem dX6_carries_45 : decode cX6_carries 45 = .ok (.getfield 19, 3) := by decide +kernel
theorem dX6_carries_48 : decode cX6_carries 48 = .ok (.iload_n 2, 1) := by decide +kernel
theorem dX6_carries_49 : decode cX6_carries 49 = .ok (.iconst 2, 1) := by decide +kernel
theorem dX6_carries_50 : decode cX6_carries 50 = .ok (.iadd, 1) := by decide +kernel
theorem dX6_carries_51 : decode cX6_carries 51 = .ok (.iaload, 1) := by decide +kernel
theorem dX6_carries_52 : decode cX6_carries 52 = .ok (.iload_n 3, 1) := by decide +kernel
theorem dX6_carries_53 : decode cX6_carries 53 = .ok (.invokevirtual 115, 3) := by decide +kernel
theorem dX6_carries_56 : decode cX6_carries 56 = .ok (.ifCond .eq 7, 3) := by decide +kernel
theorem dX6_carries_59 : decode cX6_carries 59 = .ok (.iconst 1, 1) := by decide +kernel
theorem dX6_carries_60 : decode cX6_carries 60 = .ok (.goto 4, 3) := by decide +kernel
theorem dX6_carries_63 : decode cX6_carries 63 = .ok (.iconst 0, 1) := by decide +kernel
theorem dX6_carries_64 : decode cX6_carries 64 = .ok (.istore 4, 2) := by decide +kernel
theorem dX6_carries_66 : decode cX6_carries 66 = .ok (.iload 4, 2) := by decide +kernel
theorem dX6_carries_68 : decode cX6_carries 68 = .ok (.ifCond .eq 27, 3) := by decide +kernel
theorem dX6_carries_71 : decode cX6_carries 71 = .ok (.aload_n 0, 1) := by decide +kernel
theorem dX6_carries_72 : decode cX6_carries 72 = .ok (.aload_n 0, 1) := by decide +kernel
theorem dX6_carries_73 : decode cX6_carries 73 = .ok (.getfield 19, 3) := by decide +kernel
theorem dX6_carries_76 : decode cX6_carries 76 = .ok (.iload_n 2, 1) := by decide +kernel
theorem dX6_carries_77 : decode cX6_carries 77 = .ok (.iconst 1, 1) := by decide +kernel
theorem dX6_carries_78 : decode cX6_carries 78 = .ok (.iadd, 1) := by decide +kernel
theorem dX6_carries_79 : decode cX6_carries 79 = .ok (.iaload, 1) := by decide +kernel
theorem dX6_carries_80 : decode cX6_carries 80 = .ok (.aload_n 0, 1) := by decide +kernel
theorem dX6_carries_81 : decode cX6_carries 81 = .ok (.getfield 19, 3) := by decide +kernel
theorem dX6_carries_84 : decode cX6_carries 84 = .ok (.iload_n 2, 1) := by decide +kernel
theorem dX6_carries_85 : decode cX6_carries 85 = .ok (.iconst 2, 1) := by decide +kernel
theorem dX6_carries_86 : decode cX6_carries 86 = .ok (.iadd, 1) := by decide +kernel
theorem dX6_carries_87 : decode cX6_carries 87 = .ok (.iaload, 1) := by decide +kernel
theorem dX6_carries_88 : decode cX6_carries 88 = .ok (.iload_n 3, 1) := by decide +kernel
theorem dX6_carries_89 : decode cX6_carries 89 = .ok (.invokevirtual 119, 3) := by decide +kernel
theorem dX6_carries_92 : decode cX6_carries 92 = .ok (.goto 4, 3) := by decide +kernel
theorem dX6_carries_95 : decode cX6_carries 95 = .ok (.iconst 0, 1) := by decide +kernel
theorem dX6_carries_96 : decode cX6_carries 96 = .ok (.istore 5, 2) := by decide +kernel
theorem dX6_carries_98 : decode cX6_carries 98 = .ok (.iload 4, 2) := by decide +kernel
theorem dX6_carries_100 : decode cX6_carries 100 = .ok (.ireturn, 1) := by decide +kernel
set_option maxRecDepth 20000 in
theorem ggX6_run_X6_rightUpTo : GoodIn wsX6_run wsX6_rightUpTo := goodIn_r _ [10, 5, 2, 1, 11, 12, 13, 14, 9, 15, 16, 3, 17, 18, 19, 20, 21, 22, 23, 24, 25, 26, 82, 83, 84, 85, 86, 87, 88, 89, 90, 91, 92] (by decide +kernel) (by decide +kernel)
set_option maxRecDepth 20000 in
theorem gX6_run_X6_rightUpTo : GoodIn wsX6_run (wsV RX6 157 RX6 yX6_rightUpTo wsX6_rightUpTo) := goodIn_app (goodIn_of _ (by decide +kernel)) ggX6_run_X6_rightUpTo
set_option maxRecDepth 20000 in
theorem ggX6_run_X6_save : GoodIn wsX6_run wsX6_save := goodIn_r _ [30, 31, 32, 33, 82, 83, 84, 85, 86, 87, 88, 89, 90, 91, 92] (by decide +kernel) (by decide +kernel)
set_option maxRecDepth 20000 in
theorem gX6_run_X6_save : GoodIn wsX6_run (wsV RX6 93 RX6 yX6_save wsX6_save) := goodIn_app (goodIn_of _ (by decide +kernel)) ggX6_run_X6_save
set_option maxRecDepth 20000 in
theorem ggX6_run_X6_carries : GoodIn wsX6_run wsX6_carries := goodIn_r _ [37, 16, 38, 39, 40, 9, 41, 33, 21, 22, 23, 42, 43, 44, 45, 46, 47, 48, 49, 50, 51, 52, 53, 54, 55, 56, 57, 58, 59, 60, 61, 62, 63, 64, 65, 66, 67, 68, 69, 70, 71, 72, 73, 74, 75, 76, 77, 78, 79, 80, 81, 82, 83, 84, 85, 86, 87, 88, 89, 90, 91, 92] (by decide +kernel) (by decide +kernel)
set_option maxRecDepth 20000 in
theorem gX6_run_X6_carries : GoodIn wsX6_run (wsV RX6 160 RX6 yX6_carries wsX6_carries) := goodIn_app (goodIn_of _ (by decide +kernel)) ggX6_run_X6_carries
theorem dX6_run_0 : decode cX6_run 0 = .ok (.aload_n 0, 1) := by decide +kernel
theorem dX6_run_1 : decode cX6_run 1 = .ok (.invokevirtual 157, 3) := by decide +kernel
theorem dX6_run_4 : decode cX6_run 4 = .ok (.aload_n 0, 1) := by decide +kernel
theorem dX6_run_5 : decode cX6_run 5 = .ok (.getfield 139, 3) := by decide +kernel
theorem dX6_run_8 : decode cX6_run 8 = .ok (.if_icmp .ne 23, 3) := by decide +kernel
theorem dX6_run_11 : decode cX6_run 11 = .ok (.aload_n 0, 1) := by decide +kernel
theorem dX6_run_12 : decode cX6_run 12 = .ok (.getfield 145, 3) := by decide +kernel
theorem dX6_run_15 : decode cX6_run 15 = .ok (.iconst 2, 1) := by decide +kernel
theorem dX6_run_16 : decode cX6_run 16 = .ok (.if_icmp .ne 15, 3) := by decide +kernel
theorem dX6_run_19 : decode cX6_run 19 = .ok (.aload_n 0, 1) := by decide +kernel
theorem dX6_run_20 : decode cX6_run 20 = .ok (.getfield 142, 3) := by decide +kernel
theorem dX6_run_23 : decode cX6_run 23 = .ok (.iconst (-1), 1) := by decide +kernel
theorem dX6_run_24 : decode cX6_run 24 = .ok (.if_icmp .eq 7, 3) := by decide +kernel
theorem dX6_run_27 : decode cX6_run 27 = .ok (.iconst 1, 1) := by decide +kernel
theorem dX6_run_28 : decode cX6_run 28 = .ok (.goto 4, 3) := by decide +kernel
theorem dX6_run_31 : decode cX6_run 31 = .ok (.iconst 0, 1) := by decide +kernel
theorem dX6_run_32 : decode cX6_run 32 = .ok (.istore_n 1, 1) := by decide +kernel
theorem dX6_run_33 : decode cX6_run 33 = .ok (.aload_n 0, 1) := by decide +kernel
theorem dX6_run_34 : decode cX6_run 34 = .ok (.iload_n 1, 1) := by decide +kernel
theorem dX6_run_35 : decode cX6_run 35 = .ok (.ifCond .eq 7, 3) := by decide +kernel
theorem dX6_run_38 : decode cX6_run 38 = .ok (.iconst 0, 1) := by decide +kernel
theorem dX6_run_39 : decode cX6_run 39 = .ok (.goto 4, 3) := by decide +kernel
theorem dX6_run_42 : decode cX6_run 42 = .ok (.iconst 1, 1) := by decide +kernel
theorem dX6_run_43 : decode cX6_run 43 = .ok (.putfield 22, 3) := by decide +kernel
theorem dX6_run_46 : decode cX6_run 46 = .ok (.aload_n 0, 1) := by decide +kernel
theorem dX6_run_47 : decode cX6_run 47 = .ok (.getfield 22, 3) := by decide +kernel
theorem dX6_run_50 : decode cX6_run 50 = .ok (.ifCond .le 5, 3) := by decide +kernel
theorem dX6_run_53 : decode cX6_run 53 = .ok (.iconst 0, 1) := by decide +kernel
theorem dX6_run_54 : decode cX6_run 54 = .ok (.ireturn, 1) := by decide +kernel
theorem dX6_run_55 : decode cX6_run 55 = .ok (.aload_n 0, 1) := by decide +kernel
theorem dX6_run_56 : decode cX6_run 56 = .ok (.invokevirtual 93, 3) := by decide +kernel
theorem dX6_run_59 : decode cX6_run 59 = .ok (.aload_n 0, 1) := by decide +kernel
theorem dX6_run_60 : decode cX6_run 60 = .ok (.iconst 0, 1) := by decide +kernel
theorem dX6_run_61 : decode cX6_run 61 = .ok (.putfield 139, 3) := by decide +kernel
theorem dX6_run_64 : decode cX6_run 64 = .ok (.iconst 0, 1) := by decide +kernel
theorem dX6_run_65 : decode cX6_run 65 = .ok (.istore_n 2, 1) := by decide +kernel
theorem dX6_run_66 : decode cX6_run 66 = .ok (.iload_n 2, 1) := by decide +kernel
theorem dX6_run_67 : decode cX6_run 67 = .ok (.aload_n 0, 1) := by decide +kernel
theorem dX6_run_68 : decode cX6_run 68 = .ok (.getfield 148, 3) := by decide +kernel
theorem dX6_run_71 : decode cX6_run 71 = .ok (.if_icmp .gt 17, 3) := by decide +kernel
theorem dX6_run_74 : decode cX6_run 74 = .ok (.aload_n 0, 1) := by decide +kernel
theorem dX6_run_75 : decode cX6_run 75 = .ok (.iload_n 2, 1) := by decide +kernel
theorem dX6_run_76 : decode cX6_run 76 = .ok (.invokevirtual 160, 3) := by decide +kernel
theorem dX6_run_79 : decode cX6_run 79 = .ok (.ifCond .eq 9, 3) := by decide +kernel
theorem dX6_run_82 : decode cX6_run 82 = .ok (.iinc 2 1, 3) := by decide +kernel
theorem dX6_run_85 : decode cX6_run 85 = .ok (.goto (-19), 3) := by decide +kernel
theorem dX6_run_88 : decode cX6_run 88 = .ok (.iload_n 2, 1) := by decide +kernel
theorem dX6_run_89 : decode cX6_run 89 = .ok (.ireturn, 1) := by decide +kernel
theorem dX6_undo_0 : decode cX6_undo 0 = .ok (.aload_n 0, 1) := by decide +kernel
theorem dX6_undo_1 : decode cX6_undo 1 = .ok (.aload_n 0, 1) := by decide +kernel
theorem dX6_undo_2 : decode cX6_undo 2 = .ok (.getfield 26, 3) := by decide +kernel
theorem dX6_undo_5 : decode cX6_undo 5 = .ok (.ifCond .le 7, 3) := by decide +kernel
theorem dX6_undo_8 : decode cX6_undo 8 = .ok (.iconst 0, 1) := by decide +kernel
theorem dX6_undo_9 : decode cX6_undo 9 = .ok (.goto 4, 3) := by decide +kernel
theorem dX6_undo_12 : decode cX6_undo 12 = .ok (.iconst 1, 1) := by decide +kernel
theorem dX6_undo_13 : decode cX6_undo 13 = .ok (.putfield 22, 3) := by decide +kernel
theorem dX6_undo_16 : decode cX6_undo 16 = .ok (.aload_n 0, 1) := by decide +kernel
theorem dX6_undo_17 : decode cX6_undo 17 = .ok (.getfield 22, 3) := by decide +kernel
theorem dX6_undo_20 : decode cX6_undo 20 = .ok (.ifCond .le 5, 3) := by decide +kernel
theorem dX6_undo_23 : decode cX6_undo 23 = .ok (.iconst 0, 1) := by decide +kernel
theorem dX6_undo_24 : decode cX6_undo 24 = .ok (.ireturn, 1) := by decide +kernel
theorem dX6_undo_25 : decode cX6_undo 25 = .ok (.aload_n 0, 1) := by decide +kernel
theorem dX6_undo_26 : decode cX6_undo 26 = .ok (.dup, 1) := by decide +kernel
theorem dX6_undo_27 : decode cX6_undo 27 = .ok (.getfield 26, 3) := by decide +kernel
theorem dX6_undo_30 : decode cX6_undo 30 = .ok (.iconst 1, 1) := by decide +kernel
theorem dX6_undo_31 : decode cX6_undo 31 = .ok (.isub, 1) := by decide +kernel
theorem dX6_undo_32 : decode cX6_undo 32 = .ok (.putfield 26, 3) := by decide +kernel
theorem dX6_undo_35 : decode cX6_undo 35 = .ok (.iconst 0, 1) := by decide +kernel
theorem dX6_undo_36 : decode cX6_undo 36 = .ok (.istore_n 1, 1) := by decide +kernel
theorem dX6_undo_37 : decode cX6_undo 37 = .ok (.iload_n 1, 1) := by decide +kernel
theorem dX6_undo_38 : decode cX6_undo 38 = .ok (.sipush 163, 3) := by decide +kernel
theorem dX6_undo_41 : decode cX6_undo 41 = .ok (.if_icmp .ge 30, 3) := by decide +kernel
theorem dX6_undo_44 : decode cX6_undo 44 = .ok (.aload_n 0, 1) := by decide +kernel
theorem dX6_undo_45 : decode cX6_undo 45 = .ok (.getfield 7, 3) := by decide +kernel
theorem dX6_undo_48 : decode cX6_undo 48 = .ok (.iload_n 1, 1) := by decide +kernel
theorem dX6_undo_49 : decode cX6_undo 49 = .ok (.aload_n 0, 1) := by decide +kernel
theorem dX6_undo_50 : decode cX6_undo 50 = .ok (.getfield 13, 3) := by decide +kernel
theorem dX6_undo_53 : decode cX6_undo 53 = .ok (.sipush 163, 3) := by decide +kernel
theorem dX6_undo_56 : decode cX6_undo 56 = .ok (.aload_n 0, 1) := by decide +kernel
theorem dX6_undo_57 : decode cX6_undo 57 = .ok (.getfield 26, 3) := by decide +kernel
theorem dX6_undo_60 : decode cX6_undo 60 = .ok (.imul, 1) := by decide +kernel
theorem dX6_undo_61 : decode cX6_undo 61 = .ok (.iload_n 1, 1) := by decide +kernel
theorem dX6_undo_62 : decode cX6_undo 62 = .ok (.iadd, 1) := by decide +kernel
theorem dX6_undo_63 : decode cX6_undo 63 = .ok (.iaload, 1) := by decide +kernel
theorem dX6_undo_64 : decode cX6_undo 64 = .ok (.iastore, 1) := by decide +kernel
theorem dX6_undo_65 : decode cX6_undo 65 = .ok (.iinc 1 1, 3) := by decide +kernel
theorem dX6_undo_68 : decode cX6_undo 68 = .ok (.goto (-31), 3) := by decide +kernel
theorem dX6_undo_71 : decode cX6_undo 71 = .ok (.aload_n 0, 1) := by decide +kernel
theorem dX6_undo_72 : decode cX6_undo 72 = .ok (.getfield 26, 3) := by decide +kernel
theorem dX6_undo_75 : decode cX6_undo 75 = .ok (.ireturn, 1) := by decide +kernel
set_option maxRecDepth 20000 in
theorem ggX6_requestsBy_X6_ofRequest : GoodIn wsX6_requestsBy wsX6_ofRequest := goodIn_r _ [6, 1, 7, 8, 9, 10, 11, 12, 13, 14, 15, 16, 17] (by decide +kernel) (by decide +kernel)
set_option maxRecDepth 20000 in
theorem gX6_requestsBy_X6_ofRequest : GoodIn wsX6_requestsBy (wsV RX6 59 RX6 yX6_ofRequest wsX6_ofRequest) := goodIn_app (goodIn_of _ (by decide +kernel)) ggX6_requestsBy_X6_ofRequest
theorem dX6_requestsBy_0 : decode cX6_requestsBy 0 = .ok (.iconst 0, 1) := by decide +kernel
theorem dX6_requestsBy_1 : decode cX6_requestsBy 1 = .ok (.istore_n 2, 1) := by decide +kernel
theorem dX6_requestsBy_2 : decode cX6_requestsBy 2 = .ok (.iconst 0, 1) := by decide +kernel
theorem dX6_requestsBy_3 : decode cX6_requestsBy 3 = .ok (.istore_n 3, 1) := by decide +kernel
theorem dX6_requestsBy_4 : decode cX6_requestsBy 4 = .ok (.iload_n 3, 1) := by decide +kernel
theorem dX6_requestsBy_5 : decode cX6_requestsBy 5 = .ok (.aload_n 0, 1) := by decide +kernel
theorem dX6_requestsBy_6 : decode cX6_requestsBy 6 = .ok (.getfield 7, 3) := by decide +kernel
theorem dX6_requestsBy_9 : decode cX6_requestsBy 9 = .ok (.iconst 4, 1) := by decide +kernel
theorem dX6_requestsBy_10 : decode cX6_requestsBy 10 = .ok (.iaload, 1) := by decide +kernel
theorem dX6_requestsBy_11 : decode cX6_requestsBy 11 = .ok (.if_icmp .ge 27, 3) := by decide +kernel
theorem dX6_requestsBy_14 : decode cX6_requestsBy 14 = .ok (.iload_n 2, 1) := by decide +kernel
theorem dX6_requestsBy_15 : decode cX6_requestsBy 15 = .ok (.aload_n 0, 1) := by decide +kernel
theorem dX6_requestsBy_16 : decode cX6_requestsBy 16 = .ok (.iload_n 3, 1) := by decide +kernel
theorem dX6_requestsBy_17 : decode cX6_requestsBy 17 = .ok (.iconst 0, 1) := by decide +kernel
theorem dX6_requestsBy_18 : decode cX6_requestsBy 18 = .ok (.invokevirtual 59, 3) := by decide +kernel
theorem dX6_requestsBy_21 : decode cX6_requestsBy 21 = .ok (.iload_n 1, 1) := by decide +kernel
theorem dX6_requestsBy_22 : decode cX6_requestsBy 22 = .ok (.if_icmp .ne 7, 3) := by decide +kernel
theorem dX6_requestsBy_25 : decode cX6_requestsBy 25 = .ok (.iconst 1, 1) := by decide +kernel
theorem dX6_requestsBy_26 : decode cX6_requestsBy 26 = .ok (.goto 4, 3) := by decide +kernel
theorem dX6_requestsBy_29 : decode cX6_requestsBy 29 = .ok (.iconst 0, 1) := by decide +kernel
theorem dX6_requestsBy_30 : decode cX6_requestsBy 30 = .ok (.iadd, 1) := by decide +kernel
theorem dX6_requestsBy_31 : decode cX6_requestsBy 31 = .ok (.istore_n 2, 1) := by decide +kernel
theorem dX6_requestsBy_32 : decode cX6_requestsBy 32 = .ok (.iinc 3 1, 3) := by decide +kernel
theorem dX6_requestsBy_35 : decode cX6_requestsBy 35 = .ok (.goto (-31), 3) := by decide +kernel
theorem dX6_requestsBy_38 : decode cX6_requestsBy 38 = .ok (.iload_n 2, 1) := by decide +kernel
theorem dX6_requestsBy_39 : decode cX6_requestsBy 39 = .ok (.ireturn, 1) := by decide +kernel
set_option maxRecDepth 20000 in
theorem ggX6_mandateNow_X6_chainOf : GoodIn wsX6_mandateNow wsX6_chainOf := goodIn_r _ [5, 6, 7, 8, 4, 9, 10, 34, 35, 36, 37, 38, 39, 40, 41, 42, 43, 44] (by decide +kernel) (by decide +kernel)
set_option maxRecDepth 20000 in
theorem gX6_mandateNow_X6_chainOf : GoodIn wsX6_mandateNow (wsV RX6 78 RX6 yX6_chainOf wsX6_chainOf) := goodIn_app (goodIn_of _ (by decide +kernel)) ggX6_mandateNow_X6_chainOf
set_option maxRecDepth 20000 in
theorem ggX6_mandateNow_X6_standingUnder : GoodIn wsX6_mandateNow wsX6_standingUnder := goodIn_r _ [14, 10, 15, 16, 17, 4, 18, 6, 7, 8, 9, 19, 20, 21, 22, 34, 35, 36, 37, 38, 39, 40, 41, 42, 43, 44] (by decide +kernel) (by decide +kernel)
set_option maxRecDepth 20000 in
theorem gX6_mandateNow_X6_standingUnder : GoodIn wsX6_mandateNow (wsV RX6 49 RX6 yX6_standingUnder wsX6_standingUnder) := goodIn_app (goodIn_of _ (by decide +kernel)) ggX6_mandateNow_X6_standingUnder
set_option maxRecDepth 20000 in
theorem ggX6_mandateNow_X6_ones : GoodIn wsX6_mandateNow wsX6_ones := goodIn_r _ [25] (by decide +kernel) (by decide +kernel)
set_option maxRecDepth 20000 in
theorem gX6_mandateNow_X6_ones : GoodIn wsX6_mandateNow (va_wsS RX6 66 yX6_ones wsX6_ones) := goodIn_app (goodIn_of _ (by decide +kernel)) ggX6_mandateNow_X6_ones
set_option maxRecDepth 20000 in
theorem ggX6_mandateNow_X6_requestsBy : GoodIn wsX6_mandateNow wsX6_requestsBy := goodIn_r _ [29, 10, 30, 31, 32, 4, 33, 34, 35, 36, 37, 38, 39, 40, 41, 42, 43, 44] (by decide +kernel) (by decide +kernel)
set_option maxRecDepth 20000 in
theorem gX6_mandateNow_X6_requestsBy : GoodIn wsX6_mandateNow (wsV RX6 163 RX6 yX6_requestsBy wsX6_requestsBy) := goodIn_app (goodIn_of _ (by decide +kernel)) ggX6_mandateNow_X6_requestsBy
set_option maxRecDepth 20000 in
theorem ggX6_mandateNow_X6_of : GoodIn wsX6_mandateNow wsX6_of := goodIn_r _ [9, 10, 34, 35, 36, 37, 38, 39, 40, 41, 42, 43, 44] (by decide +kernel) (by decide +kernel)
set_option maxRecDepth 20000 in
theorem gX6_mandateNow_X6_of : GoodIn wsX6_mandateNow (wsV RX6 33 RX6 yX6_of wsX6_of) := goodIn_app (goodIn_of _ (by decide +kernel)) ggX6_mandateNow_X6_of
theorem dX6_mandateNow_0 : decode cX6_mandateNow 0 = .ok (.iload_n 2, 1) := by decide +kernel
theorem dX6_mandateNow_1 : decode cX6_mandateNow 1 = .ok (.tableswitch 66 8 11 #[31, 37, 52, 58], 31) := by decide +kernel
theorem dX6_mandateNow_32 : decode cX6_mandateNow 32 = .ok (.aload_n 0, 1) := by decide +kernel
theorem dX6_mandateNow_33 : decode cX6_mandateNow 33 = .ok (.iload_n 1, 1) := by decide +kernel
theorem dX6_mandateNow_34 : decode cX6_mandateNow 34 = .ok (.invokevirtual 78, 3) := by decide +kernel
theorem dX6_mandateNow_37 : decode cX6_mandateNow 37 = .ok (.ireturn, 1) := by decide +kernel
theorem dX6_mandateNow_38 : decode cX6_mandateNow 38 = .ok (.aload_n 0, 1) := by decide +kernel
theorem dX6_mandateNow_39 : decode cX6_mandateNow 39 = .ok (.iload_n 1, 1) := by decide +kernel
theorem dX6_mandateNow_40 : decode cX6_mandateNow 40 = .ok (.invokevirtual 49, 3) := by decide +kernel
theorem dX6_mandateNow_43 : decode cX6_mandateNow 43 = .ok (.iconst 1, 1) := by decide +kernel
theorem dX6_mandateNow_44 : decode cX6_mandateNow 44 = .ok (.iload_n 1, 1) := by decide +kernel
theorem dX6_mandateNow_45 : decode cX6_mandateNow 45 = .ok (.ishl, 1) := by decide +kernel
theorem dX6_mandateNow_46 : decode cX6_mandateNow 46 = .ok (.iconst (-1), 1) := by decide +kernel
theorem dX6_mandateNow_47 : decode cX6_mandateNow 47 = .ok (.ixor, 1) := by decide +kernel
theorem dX6_mandateNow_48 : decode cX6_mandateNow 48 = .ok (.iand, 1) := by decide +kernel
theorem dX6_mandateNow_49 : decode cX6_mandateNow 49 = .ok (.invokestatic 66, 3) := by decide +kernel
theorem dX6_mandateNow_52 : decode cX6_mandateNow 52 = .ok (.ireturn, 1) := by decide +kernel
theorem dX6_mandateNow_53 : decode cX6_mandateNow 53 = .ok (.aload_n 0, 1) := by decide +kernel
theorem dX6_mandateNow_54 : decode cX6_mandateNow 54 = .ok (.iload_n 1, 1) := by decide +kernel
theorem dX6_mandateNow_55 : decode cX6_mandateNow 55 = .ok (.invokevirtual 163, 3) := by decide +kernel
theorem dX6_mandateNow_58 : decode cX6_mandateNow 58 = .ok (.ireturn, 1) := by decide +kernel
theorem dX6_mandateNow_59 : decode cX6_mandateNow 59 = .ok (.aload_n 0, 1) := by decide +kernel
theorem dX6_mandateNow_60 : decode cX6_mandateNow 60 = .ok (.iload_n 1, 1) := by decide +kernel
theorem dX6_mandateNow_61 : decode cX6_mandateNow 61 = .ok (.bipush 8, 2) := by decide +kernel
theorem dX6_mandateNow_63 : decode cX6_mandateNow 63 = .ok (.invokevirtual 33, 3) := by decide +kernel
theorem dX6_mandateNow_66 : decode cX6_mandateNow 66 = .ok (.ireturn, 1) := by decide +kernel
theorem dX6_mandateNow_67 : decode cX6_mandateNow 67 = .ok (.aload_n 0, 1) := by decide +kernel
theorem dX6_mandateNow_68 : decode cX6_mandateNow 68 = .ok (.iload_n 1, 1) := by decide +kernel
theorem dX6_mandateNow_69 : decode cX6_mandateNow 69 = .ok (.iload_n 2, 1) := by decide +kernel
theorem dX6_mandateNow_70 : decode cX6_mandateNow 70 = .ok (.invokevirtual 33, 3) := by decide +kernel
theorem dX6_mandateNow_73 : decode cX6_mandateNow 73 = .ok (.ireturn, 1) := by decide +kernel
set_option maxRecDepth 20000 in
theorem ggX6_mandate_X6_isMandate : GoodIn wsX6_mandate wsX6_isMandate := goodIn_r _ [6, 7, 8, 9, 5, 10, 46, 47, 48, 49, 50, 51, 52, 53, 54, 55, 56] (by decide +kernel) (by decide +kernel)
set_option maxRecDepth 20000 in
theorem gX6_mandate_X6_isMandate : GoodIn wsX6_mandate (wsV RX6 87 RX6 yX6_isMandate wsX6_isMandate) := goodIn_app (goodIn_of _ (by decide +kernel)) ggX6_mandate_X6_isMandate
set_option maxRecDepth 20000 in
theorem ggX6_mandate_X6_within : GoodIn wsX6_mandate wsX6_within := goodIn_r _ [10] (by decide +kernel) (by decide +kernel)
set_option maxRecDepth 20000 in
theorem gX6_mandate_X6_within : GoodIn wsX6_mandate (va_wsS RX6 29 yX6_within wsX6_within) := goodIn_app (goodIn_of _ (by decide +kernel)) ggX6_mandate_X6_within
set_option maxRecDepth 20000 in
theorem ggX6_mandate_X6_mandateNow : GoodIn wsX6_mandate wsX6_mandateNow := goodIn_r _ [14, 15, 16, 17, 5, 18, 19, 20, 21, 22, 7, 23, 24, 25, 26, 27, 28, 29, 30, 31, 32, 33, 34, 35, 36, 37, 38, 39, 40, 41, 42, 43, 44, 45, 46, 47, 48, 49, 50, 51, 52, 53, 54, 55, 56] (by decide +kernel) (by decide +kernel)
set_option maxRecDepth 20000 in
theorem gX6_mandate_X6_mandateNow : GoodIn wsX6_mandate (wsV RX6 166 RX6 yX6_mandateNow wsX6_mandateNow) := goodIn_app (goodIn_of _ (by decide +kernel)) ggX6_mandate_X6_mandateNow
theorem dX6_mandate_0 : decode cX6_mandate 0 = .ok (.aload_n 0, 1) := by decide +kernel
theorem dX6_mandate_1 : decode cX6_mandate 1 = .ok (.aload_n 0, 1) := by decide +kernel
theorem dX6_mandate_2 : decode cX6_mandate 2 = .ok (.iload_n 1, 1) := by decide +kernel
theorem dX6_mandate_3 : decode cX6_mandate 3 = .ok (.invokevirtual 87, 3) := by decide +kernel
theorem dX6_mandate_6 : decode cX6_mandate 6 = .ok (.ifCond .ne 7, 3) := by decide +kernel
theorem dX6_mandate_9 : decode cX6_mandate 9 = .ok (.iconst 1, 1) := by decide +kernel
theorem dX6_mandate_10 : decode cX6_mandate 10 = .ok (.goto 18, 3) := by decide +kernel
theorem dX6_mandate_13 : decode cX6_mandate 13 = .ok (.iload_n 2, 1) := by decide +kernel
theorem dX6_mandate_14 : decode cX6_mandate 14 = .ok (.iconst 0, 1) := by decide +kernel
theorem dX6_mandate_15 : decode cX6_mandate 15 = .ok (.bipush 11, 2) := by decide +kernel
theorem dX6_mandate_17 : decode cX6_mandate 17 = .ok (.invokestatic 29, 3) := by decide +kernel
theorem dX6_mandate_20 : decode cX6_mandate 20 = .ok (.ifCond .eq 7, 3) := by decide +kernel
theorem dX6_mandate_23 : decode cX6_mandate 23 = .ok (.iconst 0, 1) := by decide +kernel
theorem dX6_mandate_24 : decode cX6_mandate 24 = .ok (.goto 4, 3) := by decide +kernel
theorem dX6_mandate_27 : decode cX6_mandate 27 = .ok (.iconst 2, 1) := by decide +kernel
theorem dX6_mandate_28 : decode cX6_mandate 28 = .ok (.putfield 22, 3) := by decide +kernel
theorem dX6_mandate_31 : decode cX6_mandate 31 = .ok (.aload_n 0, 1) := by decide +kernel
theorem dX6_mandate_32 : decode cX6_mandate 32 = .ok (.getfield 22, 3) := by decide +kernel
theorem dX6_mandate_35 : decode cX6_mandate 35 = .ok (.ifCond .le 7, 3) := by decide +kernel
theorem dX6_mandate_38 : decode cX6_mandate 38 = .ok (.iconst 0, 1) := by decide +kernel
theorem dX6_mandate_39 : decode cX6_mandate 39 = .ok (.goto 9, 3) := by decide +kernel
theorem dX6_mandate_42 : decode cX6_mandate 42 = .ok (.aload_n 0, 1) := by decide +kernel
theorem dX6_mandate_43 : decode cX6_mandate 43 = .ok (.iload_n 1, 1) := by decide +kernel
theorem dX6_mandate_44 : decode cX6_mandate 44 = .ok (.iload_n 2, 1) := by decide +kernel
theorem dX6_mandate_45 : decode cX6_mandate 45 = .ok (.invokevirtual 166, 3) := by decide +kernel
theorem dX6_mandate_48 : decode cX6_mandate 48 = .ok (.ireturn, 1) := by decide +kernel
set_option maxRecDepth 20000 in
theorem ggX6_requestNow_X6_ofRequest : GoodIn wsX6_requestNow wsX6_ofRequest := goodIn_r _ [5, 6, 26, 27, 28, 29, 30, 31, 32, 33, 34, 35, 36] (by decide +kernel) (by decide +kernel)
set_option maxRecDepth 20000 in
theorem gX6_requestNow_X6_ofRequest : GoodIn wsX6_requestNow (wsV RX6 59 RX6 yX6_ofRequest wsX6_ofRequest) := goodIn_app (goodIn_of _ (by decide +kernel)) ggX6_requestNow_X6_ofRequest
set_option maxRecDepth 20000 in
theorem ggX6_requestNow_X6_approversOf : GoodIn wsX6_requestNow wsX6_approversOf := goodIn_r _ [10, 11, 12, 13, 4, 14, 1, 2, 3, 5, 6, 15, 16, 17, 18, 19, 20, 21, 22, 23, 24, 25, 26, 27, 28, 29, 30, 31, 32, 33, 34, 35, 36] (by decide +kernel) (by decide +kernel)
set_option maxRecDepth 20000 in
theorem gX6_requestNow_X6_approversOf : GoodIn wsX6_requestNow (wsV RX6 169 RX6 yX6_approversOf wsX6_approversOf) := goodIn_app (goodIn_of _ (by decide +kernel)) ggX6_requestNow_X6_approversOf
theorem dX6_requestNow_0 : decode cX6_requestNow 0 = .ok (.iload_n 2, 1) := by decide +kernel
theorem dX6_requestNow_1 : decode cX6_requestNow 1 = .ok (.bipush 6, 2) := by decide +kernel
theorem dX6_requestNow_3 : decode cX6_requestNow 3 = .ok (.if_icmp .ge 12, 3) := by decide +kernel
theorem dX6_requestNow_6 : decode cX6_requestNow 6 = .ok (.aload_n 0, 1) := by decide +kernel
theorem dX6_requestNow_7 : decode cX6_requestNow 7 = .ok (.iload_n 1, 1) := by decide +kernel
theorem dX6_requestNow_8 : decode cX6_requestNow 8 = .ok (.iload_n 2, 1) := by decide +kernel
theorem dX6_requestNow_9 : decode cX6_requestNow 9 = .ok (.invokevirtual 59, 3) := by decide +kernel
theorem dX6_requestNow_12 : decode cX6_requestNow 12 = .ok (.goto 8, 3) := by decide +kernel
theorem dX6_requestNow_15 : decode cX6_requestNow 15 = .ok (.aload_n 0, 1) := by decide +kernel
theorem dX6_requestNow_16 : decode cX6_requestNow 16 = .ok (.iload_n 1, 1) := by decide +kernel
theorem dX6_requestNow_17 : decode cX6_requestNow 17 = .ok (.invokevirtual 169, 3) := by decide +kernel
theorem dX6_requestNow_20 : decode cX6_requestNow 20 = .ok (.ireturn, 1) := by decide +kernel
set_option maxRecDepth 20000 in
theorem ggX6_request_X6_isRequest : GoodIn wsX6_request wsX6_isRequest := goodIn_r _ [6, 7, 8, 9, 5, 10, 38, 39, 40, 41, 42, 43, 44, 45, 46, 47, 48] (by decide +kernel) (by decide +kernel)
set_option maxRecDepth 20000 in
theorem gX6_request_X6_isRequest : GoodIn wsX6_request (wsV RX6 123 RX6 yX6_isRequest wsX6_isRequest) := goodIn_app (goodIn_of _ (by decide +kernel)) ggX6_request_X6_isRequest
set_option maxRecDepth 20000 in
theorem ggX6_request_X6_within : GoodIn wsX6_request wsX6_within := goodIn_r _ [10] (by decide +kernel) (by decide +kernel)
set_option maxRecDepth 20000 in
theorem gX6_request_X6_within : GoodIn wsX6_request (va_wsS RX6 29 yX6_within wsX6_within) := goodIn_app (goodIn_of _ (by decide +kernel)) ggX6_request_X6_within
set_option maxRecDepth 20000 in
theorem ggX6_request_X6_requestNow : GoodIn wsX6_request wsX6_requestNow := goodIn_r _ [14, 15, 16, 17, 5, 18, 7, 19, 20, 21, 22, 23, 24, 25, 26, 27, 28, 29, 30, 31, 32, 33, 34, 35, 36, 37, 38, 39, 40, 41, 42, 43, 44, 45, 46, 47, 48] (by decide +kernel) (by decide +kernel)
set_option maxRecDepth 20000 in
theorem gX6_request_X6_requestNow : GoodIn wsX6_request (wsV RX6 172 RX6 yX6_requestNow wsX6_requestNow) := goodIn_app (goodIn_of _ (by decide +kernel)) ggX6_request_X6_requestNow
theorem dX6_request_0 : decode cX6_request 0 = .ok (.aload_n 0, 1) := by decide +kernel
theorem dX6_request_1 : decode cX6_request 1 = .ok (.aload_n 0, 1) := by decide +kernel
theorem dX6_request_2 : decode cX6_request 2 = .ok (.iload_n 1, 1) := by decide +kernel
theorem dX6_request_3 : decode cX6_request 3 = .ok (.invokevirtual 123, 3) := by decide +kernel
theorem dX6_request_6 : decode cX6_request 6 = .ok (.ifCond .ne 7, 3) := by decide +kernel
theorem dX6_request_9 : decode cX6_request 9 = .ok (.iconst 1, 1) := by decide +kernel
theorem dX6_request_10 : decode cX6_request 10 = .ok (.goto 18, 3) := by decide +kernel
theorem dX6_request_13 : decode cX6_request 13 = .ok (.iload_n 2, 1) := by decide +kernel
theorem dX6_request_14 : decode cX6_request 14 = .ok (.iconst 0, 1) := by decide +kernel
theorem dX6_request_15 : decode cX6_request 15 = .ok (.bipush 6, 2) := by decide +kernel
theorem dX6_request_17 : decode cX6_request 17 = .ok (.invokestatic 29, 3) := by decide +kernel
theorem dX6_request_20 : decode cX6_request 20 = .ok (.ifCond .eq 7, 3) := by decide +kernel
theorem dX6_request_23 : decode cX6_request 23 = .ok (.iconst 0, 1) := by decide +kernel
theorem dX6_request_24 : decode cX6_request 24 = .ok (.goto 4, 3) := by decide +kernel
theorem dX6_request_27 : decode cX6_request 27 = .ok (.iconst 2, 1) := by decide +kernel
theorem dX6_request_28 : decode cX6_request 28 = .ok (.putfield 22, 3) := by decide +kernel
theorem dX6_request_31 : decode cX6_request 31 = .ok (.aload_n 0, 1) := by decide +kernel
theorem dX6_request_32 : decode cX6_request 32 = .ok (.getfield 22, 3) := by decide +kernel
theorem dX6_request_35 : decode cX6_request 35 = .ok (.ifCond .le 7, 3) := by decide +kernel
theorem dX6_request_38 : decode cX6_request 38 = .ok (.iconst 0, 1) := by decide +kernel
theorem dX6_request_39 : decode cX6_request 39 = .ok (.goto 9, 3) := by decide +kernel
theorem dX6_request_42 : decode cX6_request 42 = .ok (.aload_n 0, 1) := by decide +kernel
theorem dX6_request_43 : decode cX6_request 43 = .ok (.iload_n 1, 1) := by decide +kernel
theorem dX6_request_44 : decode cX6_request 44 = .ok (.iload_n 2, 1) := by decide +kernel
theorem dX6_request_45 : decode cX6_request 45 = .ok (.invokevirtual 172, 3) := by decide +kernel
theorem dX6_request_48 : decode cX6_request 48 = .ok (.ireturn, 1) := by decide +kernel
set_option maxRecDepth 20000 in
theorem ggX6_heldBy_X6_of : GoodIn wsX6_heldBy wsX6_of := goodIn_r _ [6, 1, 7, 8, 9, 10, 11, 12, 13, 14, 15, 16, 17] (by decide +kernel) (by decide +kernel)
set_option maxRecDepth 20000 in
theorem gX6_heldBy_X6_of : GoodIn wsX6_heldBy (wsV RX6 33 RX6 yX6_of wsX6_of) := goodIn_app (goodIn_of _ (by decide +kernel)) ggX6_heldBy_X6_of
theorem dX6_heldBy_0 : decode cX6_heldBy 0 = .ok (.iconst 0, 1) := by decide +kernel
theorem dX6_heldBy_1 : decode cX6_heldBy 1 = .ok (.istore_n 3, 1) := by decide +kernel
theorem dX6_heldBy_2 : decode cX6_heldBy 2 = .ok (.iconst 0, 1) := by decide +kernel
theorem dX6_heldBy_3 : decode cX6_heldBy 3 = .ok (.istore 4, 2) := by decide +kernel
theorem dX6_heldBy_5 : decode cX6_heldBy 5 = .ok (.iload 4, 2) := by decide +kernel
theorem dX6_heldBy_7 : decode cX6_heldBy 7 = .ok (.aload_n 0, 1) := by decide +kernel
theorem dX6_heldBy_8 : decode cX6_heldBy 8 = .ok (.getfield 7, 3) := by decide +kernel
theorem dX6_heldBy_11 : decode cX6_heldBy 11 = .ok (.iconst 3, 1) := by decide +kernel
theorem dX6_heldBy_12 : decode cX6_heldBy 12 = .ok (.iaload, 1) := by decide +kernel
theorem dX6_heldBy_13 : decode cX6_heldBy 13 = .ok (.if_icmp .ge 34, 3) := by decide +kernel
theorem dX6_heldBy_16 : decode cX6_heldBy 16 = .ok (.iload_n 3, 1) := by decide +kernel
theorem dX6_heldBy_17 : decode cX6_heldBy 17 = .ok (.aload_n 0, 1) := by decide +kernel
theorem dX6_heldBy_18 : decode cX6_heldBy 18 = .ok (.iload 4, 2) := by decide +kernel
theorem dX6_heldBy_20 : decode cX6_heldBy 20 = .ok (.iconst 1, 1) := by decide +kernel
theorem dX6_heldBy_21 : decode cX6_heldBy 21 = .ok (.invokevirtual 33, 3) := by decide +kernel
theorem dX6_heldBy_24 : decode cX6_heldBy 24 = .ok (.iload_n 1, 1) := by decide +kernel
theorem dX6_heldBy_25 : decode cX6_heldBy 25 = .ok (.if_icmp .ne 13, 3) := by decide +kernel
theorem dX6_heldBy_28 : decode cX6_heldBy 28 = .ok (.aload_n 0, 1) := by decide +kernel
theorem dX6_heldBy_29 : decode cX6_heldBy 29 = .ok (.iload 4, 2) := by decide +kernel
theorem dX6_heldBy_31 : decode cX6_heldBy 31 = .ok (.iload_n 2, 1) := by decide +kernel
theorem dX6_heldBy_32 : decode cX6_heldBy 32 = .ok (.invokevirtual 33, 3) := by decide +kernel
theorem dX6_heldBy_35 : decode cX6_heldBy 35 = .ok (.goto 4, 3) := by decide +kernel
theorem dX6_heldBy_38 : decode cX6_heldBy 38 = .ok (.iconst 0, 1) := by decide +kernel
theorem dX6_heldBy_39 : decode cX6_heldBy 39 = .ok (.iadd, 1) := by decide +kernel
theorem dX6_heldBy_40 : decode cX6_heldBy 40 = .ok (.istore_n 3, 1) := by decide +kernel
theorem dX6_heldBy_41 : decode cX6_heldBy 41 = .ok (.iinc 4 1, 3) := by decide +kernel
theorem dX6_heldBy_44 : decode cX6_heldBy 44 = .ok (.goto (-39), 3) := by decide +kernel
theorem dX6_heldBy_47 : decode cX6_heldBy 47 = .ok (.iload_n 3, 1) := by decide +kernel
theorem dX6_heldBy_48 : decode cX6_heldBy 48 = .ok (.ireturn, 1) := by decide +kernel
set_option maxRecDepth 20000 in
theorem ggX6_approvableBy_X6_canApprove : GoodIn wsX6_approvableBy wsX6_canApprove := goodIn_r _ [6, 7, 8, 9, 5, 10, 1, 11, 12, 13, 14, 15, 16, 17, 18, 19, 20, 21, 22, 23, 24, 25, 26, 27, 28, 29, 30, 31, 32] (by decide +kernel) (by decide +kernel)
set_option maxRecDepth 20000 in
theorem gX6_approvableBy_X6_canApprove : GoodIn wsX6_approvableBy (wsV RX6 72 RX6 yX6_canApprove wsX6_canApprove) := goodIn_app (goodIn_of _ (by decide +kernel)) ggX6_approvableBy_X6_canApprove
theorem dX6_approvableBy_0 : decode cX6_approvableBy 0 = .ok (.iconst 0, 1) := by decide +kernel
theorem dX6_approvableBy_1 : decode cX6_approvableBy 1 = .ok (.istore_n 2, 1) := by decide +kernel
theorem dX6_approvableBy_2 : decode cX6_approvableBy 2 = .ok (.iconst 0, 1) := by decide +kernel
theorem dX6_approvableBy_3 : decode cX6_approvableBy 3 = .ok (.istore_n 3, 1) := by decide +kernel
theorem dX6_approvableBy_4 : decode cX6_approvableBy 4 = .ok (.iload_n 3, 1) := by decide +kernel
theorem dX6_approvableBy_5 : decode cX6_approvableBy 5 = .ok (.aload_n 0, 1) := by decide +kernel
theorem dX6_approvableBy_6 : decode cX6_approvableBy 6 = .ok (.getfield 7, 3) := by decide +kernel
theorem dX6_approvableBy_9 : decode cX6_approvableBy 9 = .ok (.iconst 4, 1) := by decide +kernel
theorem dX6_approvableBy_10 : decode cX6_approvableBy 10 = .ok (.iaload, 1) := by decide +kernel
theorem dX6_approvableBy_11 : decode cX6_approvableBy 11 = .ok (.if_icmp .ge 26, 3) := by decide +kernel
theorem dX6_approvableBy_14 : decode cX6_approvableBy 14 = .ok (.iload_n 2, 1) := by decide +kernel
theorem dX6_approvableBy_15 : decode cX6_approvableBy 15 = .ok (.aload_n 0, 1) := by decide +kernel
theorem dX6_approvableBy_16 : decode cX6_approvableBy 16 = .ok (.iload_n 3, 1) := by decide +kernel
theorem dX6_approvableBy_17 : decode cX6_approvableBy 17 = .ok (.iload_n 1, 1) := by decide +kernel
theorem dX6_approvableBy_18 : decode cX6_approvableBy 18 = .ok (.invokevirtual 72, 3) := by decide +kernel
theorem dX6_approvableBy_21 : decode cX6_approvableBy 21 = .ok (.ifCond .eq 7, 3) := by decide +kernel
theorem dX6_approvableBy_24 : decode cX6_approvableBy 24 = .ok (.iconst 1, 1) := by decide +kernel
theorem dX6_approvableBy_25 : decode cX6_approvableBy 25 = .ok (.goto 4, 3) := by decide +kernel
theorem dX6_approvableBy_28 : decode cX6_approvableBy 28 = .ok (.iconst 0, 1) := by decide +kernel
theorem dX6_approvableBy_29 : decode cX6_approvableBy 29 = .ok (.iadd, 1) := by decide +kernel
theorem dX6_approvableBy_30 : decode cX6_approvableBy 30 = .ok (.istore_n 2, 1) := by decide +kernel
theorem dX6_approvableBy_31 : decode cX6_approvableBy 31 = .ok (.iinc 3 1, 3) := by decide +kernel
theorem dX6_approvableBy_34 : decode cX6_approvableBy 34 = .ok (.goto (-30), 3) := by decide +kernel
theorem dX6_approvableBy_37 : decode cX6_approvableBy 37 = .ok (.iload_n 2, 1) := by decide +kernel
theorem dX6_approvableBy_38 : decode cX6_approvableBy 38 = .ok (.ireturn, 1) := by decide +kernel
set_option maxRecDepth 20000 in
theorem ggX6_personNow_X6_heldBy : GoodIn wsX6_personNow wsX6_heldBy := goodIn_r _ [6, 1, 7, 8, 9, 5, 10, 30, 31, 32, 33, 34, 35, 36, 37, 38, 39, 40] (by decide +kernel) (by decide +kernel)
set_option maxRecDepth 20000 in
theorem gX6_personNow_X6_heldBy : GoodIn wsX6_personNow (wsV RX6 175 RX6 yX6_heldBy wsX6_heldBy) := goodIn_app (goodIn_of _ (by decide +kernel)) ggX6_personNow_X6_heldBy
set_option maxRecDepth 20000 in
theorem ggX6_personNow_X6_approvableBy : GoodIn wsX6_personNow wsX6_approvableBy := goodIn_r _ [14, 1, 15, 16, 17, 5, 18, 19, 20, 21, 22, 23, 24, 25, 7, 8, 9, 10, 26, 27, 28, 29, 30, 31, 32, 33, 34, 35, 36, 37, 38, 39, 40] (by decide +kernel) (by decide +kernel)
set_option maxRecDepth 20000 in
theorem gX6_personNow_X6_approvableBy : GoodIn wsX6_personNow (wsV RX6 178 RX6 yX6_approvableBy wsX6_approvableBy) := goodIn_app (goodIn_of _ (by decide +kernel)) ggX6_personNow_X6_approvableBy
theorem dX6_personNow_0 : decode cX6_personNow 0 = .ok (.iload_n 2, 1) := by decide +kernel
theorem dX6_personNow_1 : decode cX6_personNow 1 = .ok (.tableswitch 52 0 2 #[27, 34, 42], 27) := by decide +kernel
theorem dX6_personNow_28 : decode cX6_personNow 28 = .ok (.aload_n 0, 1) := by decide +kernel
theorem dX6_personNow_29 : decode cX6_personNow 29 = .ok (.iload_n 1, 1) := by decide +kernel
theorem dX6_personNow_30 : decode cX6_personNow 30 = .ok (.iconst 5, 1) := by decide +kernel
theorem dX6_personNow_31 : decode cX6_personNow 31 = .ok (.invokevirtual 175, 3) := by decide +kernel
theorem dX6_personNow_34 : decode cX6_personNow 34 = .ok (.ireturn, 1) := by decide +kernel
theorem dX6_personNow_35 : decode cX6_personNow 35 = .ok (.aload_n 0, 1) := by decide +kernel
theorem dX6_personNow_36 : decode cX6_personNow 36 = .ok (.iload_n 1, 1) := by decide +kernel
theorem dX6_personNow_37 : decode cX6_personNow 37 = .ok (.bipush 7, 2) := by decide +kernel
theorem dX6_personNow_39 : decode cX6_personNow 39 = .ok (.invokevirtual 175, 3) := by decide +kernel
theorem dX6_personNow_42 : decode cX6_personNow 42 = .ok (.ireturn, 1) := by decide +kernel
theorem dX6_personNow_43 : decode cX6_personNow 43 = .ok (.aload_n 0, 1) := by decide +kernel
theorem dX6_personNow_44 : decode cX6_personNow 44 = .ok (.getfield 7, 3) := by decide +kernel
theorem dX6_personNow_47 : decode cX6_personNow 47 = .ok (.bipush 11, 2) := by decide +kernel
theorem dX6_personNow_49 : decode cX6_personNow 49 = .ok (.iload_n 1, 1) := by decide +kernel
theorem dX6_personNow_50 : decode cX6_personNow 50 = .ok (.iadd, 1) := by decide +kernel
theorem dX6_personNow_51 : decode cX6_personNow 51 = .ok (.iaload, 1) := by decide +kernel
theorem dX6_personNow_52 : decode cX6_personNow 52 = .ok (.ireturn, 1) := by decide +kernel
theorem dX6_personNow_53 : decode cX6_personNow 53 = .ok (.aload_n 0, 1) := by decide +kernel
theorem dX6_personNow_54 : decode cX6_personNow 54 = .ok (.iload_n 1, 1) := by decide +kernel
theorem dX6_personNow_55 : decode cX6_personNow 55 = .ok (.invokevirtual 178, 3) := by decide +kernel
theorem dX6_personNow_58 : decode cX6_personNow 58 = .ok (.ireturn, 1) := by decide +kernel
set_option maxRecDepth 20000 in
theorem ggX6_person_X6_isPerson : GoodIn wsX6_person wsX6_isPerson := goodIn_r _ [5, 6, 7, 4, 8] (by decide +kernel) (by decide +kernel)
set_option maxRecDepth 20000 in
theorem gX6_person_X6_isPerson : GoodIn wsX6_person (va_wsS RX6 81 yX6_isPerson wsX6_isPerson) := goodIn_app (goodIn_of _ (by decide +kernel)) ggX6_person_X6_isPerson
set_option maxRecDepth 20000 in
theorem ggX6_person_X6_within : GoodIn wsX6_person wsX6_within := goodIn_r _ [8] (by decide +kernel) (by decide +kernel)
set_option maxRecDepth 20000 in
theorem gX6_person_X6_within : GoodIn wsX6_person (va_wsS RX6 29 yX6_within wsX6_within) := goodIn_app (goodIn_of _ (by decide +kernel)) ggX6_person_X6_within
set_option maxRecDepth 20000 in
theorem ggX6_person_X6_personNow : GoodIn wsX6_person wsX6_personNow := goodIn_r _ [12, 13, 14, 15, 16, 4, 17, 18, 19, 20, 21, 22, 23, 24, 25, 26, 27, 28, 29, 30, 31, 32, 33, 34, 35, 36, 37, 38, 39, 40, 41, 42, 43, 44, 45, 46, 47, 48, 49, 50, 51] (by decide +kernel) (by decide +kernel)
set_option maxRecDepth 20000 in
theorem gX6_person_X6_personNow : GoodIn wsX6_person (wsV RX6 181 RX6 yX6_personNow wsX6_personNow) := goodIn_app (goodIn_of _ (by decide +kernel)) ggX6_person_X6_personNow
theorem dX6_person_0 : decode cX6_person 0 = .ok (.aload_n 0, 1) := by decide +kernel
theorem dX6_person_1 : decode cX6_person 1 = .ok (.iload_n 1, 1) := by decide +kernel
theorem dX6_person_2 : decode cX6_person 2 = .ok (.invokestatic 81, 3) := by decide +kernel
theorem dX6_person_5 : decode cX6_person 5 = .ok (.ifCond .ne 7, 3) := by decide +kernel
theorem dX6_person_8 : decode cX6_person 8 = .ok (.iconst 1, 1) := by decide +kernel
theorem dX6_person_9 : decode cX6_person 9 = .ok (.goto 17, 3) := by decide +kernel
theorem dX6_person_12 : decode cX6_person 12 = .ok (.iload_n 2, 1) := by decide +kernel
theorem dX6_person_13 : decode cX6_person 13 = .ok (.iconst 0, 1) := by decide +kernel
theorem dX6_person_14 : decode cX6_person 14 = .ok (.iconst 3, 1) := by decide +kernel
theorem dX6_person_15 : decode cX6_person 15 = .ok (.invokestatic 29, 3) := by decide +kernel
theorem dX6_person_18 : decode cX6_person 18 = .ok (.ifCond .eq 7, 3) := by decide +kernel
theorem dX6_person_21 : decode cX6_person 21 = .ok (.iconst 0, 1) := by decide +kernel
theorem dX6_person_22 : decode cX6_person 22 = .ok (.goto 4, 3) := by decide +kernel
theorem dX6_person_25 : decode cX6_person 25 = .ok (.iconst 2, 1) := by decide +kernel
theorem dX6_person_26 : decode cX6_person 26 = .ok (.putfield 22, 3) := by decide +kernel
theorem dX6_person_29 : decode cX6_person 29 = .ok (.aload_n 0, 1) := by decide +kernel
theorem dX6_person_30 : decode cX6_person 30 = .ok (.getfield 22, 3) := by decide +kernel
theorem dX6_person_33 : decode cX6_person 33 = .ok (.ifCond .le 7, 3) := by decide +kernel
theorem dX6_person_36 : decode cX6_person 36 = .ok (.iconst 0, 1) := by decide +kernel
theorem dX6_person_37 : decode cX6_person 37 = .ok (.goto 9, 3) := by decide +kernel
theorem dX6_person_40 : decode cX6_person 40 = .ok (.aload_n 0, 1) := by decide +kernel
theorem dX6_person_41 : decode cX6_person 41 = .ok (.iload_n 1, 1) := by decide +kernel
theorem dX6_person_42 : decode cX6_person 42 = .ok (.iload_n 2, 1) := by decide +kernel
theorem dX6_person_43 : decode cX6_person 43 = .ok (.invokevirtual 181, 3) := by decide +kernel
theorem dX6_person_46 : decode cX6_person 46 = .ok (.ireturn, 1) := by decide +kernel
set_option maxRecDepth 20000 in
theorem ggX6_standing_X6_of : GoodIn wsX6_standing wsX6_of := goodIn_r _ [6, 1, 7, 8, 9, 10, 11, 12, 13, 14, 15, 16, 17] (by decide +kernel) (by decide +kernel)
set_option maxRecDepth 20000 in
theorem gX6_standing_X6_of : GoodIn wsX6_standing (wsV RX6 33 RX6 yX6_of wsX6_of) := goodIn_app (goodIn_of _ (by decide +kernel)) ggX6_standing_X6_of
theorem dX6_standing_0 : decode cX6_standing 0 = .ok (.iconst 0, 1) := by decide +kernel
theorem dX6_standing_1 : decode cX6_standing 1 = .ok (.istore_n 1, 1) := by decide +kernel
theorem dX6_standing_2 : decode cX6_standing 2 = .ok (.iconst 0, 1) := by decide +kernel
theorem dX6_standing_3 : decode cX6_standing 3 = .ok (.istore_n 2, 1) := by decide +kernel
theorem dX6_standing_4 : decode cX6_standing 4 = .ok (.iload_n 2, 1) := by decide +kernel
theorem dX6_standing_5 : decode cX6_standing 5 = .ok (.aload_n 0, 1) := by decide +kernel
theorem dX6_standing_6 : decode cX6_standing 6 = .ok (.getfield 7, 3) := by decide +kernel
theorem dX6_standing_9 : decode cX6_standing 9 = .ok (.iconst 3, 1) := by decide +kernel
theorem dX6_standing_10 : decode cX6_standing 10 = .ok (.iaload, 1) := by decide +kernel
theorem dX6_standing_11 : decode cX6_standing 11 = .ok (.if_icmp .ge 18, 3) := by decide +kernel
theorem dX6_standing_14 : decode cX6_standing 14 = .ok (.iload_n 1, 1) := by decide +kernel
theorem dX6_standing_15 : decode cX6_standing 15 = .ok (.aload_n 0, 1) := by decide +kernel
theorem dX6_standing_16 : decode cX6_standing 16 = .ok (.iload_n 2, 1) := by decide +kernel
theorem dX6_standing_17 : decode cX6_standing 17 = .ok (.iconst 5, 1) := by decide +kernel
theorem dX6_standing_18 : decode cX6_standing 18 = .ok (.invokevirtual 33, 3) := by decide +kernel
theorem dX6_standing_21 : decode cX6_standing 21 = .ok (.iadd, 1) := by decide +kernel
theorem dX6_standing_22 : decode cX6_standing 22 = .ok (.istore_n 1, 1) := by decide +kernel
theorem dX6_standing_23 : decode cX6_standing 23 = .ok (.iinc 2 1, 3) := by decide +kernel
theorem dX6_standing_26 : decode cX6_standing 26 = .ok (.goto (-22), 3) := by decide +kernel
theorem dX6_standing_29 : decode cX6_standing 29 = .ok (.iload_n 1, 1) := by decide +kernel
theorem dX6_standing_30 : decode cX6_standing 30 = .ok (.ireturn, 1) := by decide +kernel
set_option maxRecDepth 20000 in
theorem ggX6_counted_X6_standing : GoodIn wsX6_counted wsX6_standing := goodIn_r _ [7, 1, 8, 9, 10, 6, 11, 12, 13, 14, 15, 16, 17, 18, 19, 20, 21, 22] (by decide +kernel) (by decide +kernel)
set_option maxRecDepth 20000 in
theorem gX6_counted_X6_standing : GoodIn wsX6_counted (wsV RX6 184 RX6 yX6_standing wsX6_standing) := goodIn_app (goodIn_of _ (by decide +kernel)) ggX6_counted_X6_standing
theorem dX6_counted_0 : decode cX6_counted 0 = .ok (.iload_n 1, 1) := by decide +kernel
theorem dX6_counted_1 : decode cX6_counted 1 = .ok (.tableswitch 104 0 11 #[63, 70, 75, 82, 89, 104, 104, 104, 104, 104, 104, 99], 63) := by decide +kernel
theorem dX6_counted_64 : decode cX6_counted 64 = .ok (.aload_n 0, 1) := by decide +kernel
theorem dX6_counted_65 : decode cX6_counted 65 = .ok (.getfield 7, 3) := by decide +kernel
theorem dX6_counted_68 : decode cX6_counted 68 = .ok (.iconst 3, 1) := by decide +kernel
theorem dX6_counted_69 : decode cX6_counted 69 = .ok (.iaload, 1) := by decide +kernel
theorem dX6_counted_70 : decode cX6_counted 70 = .ok (.ireturn, 1) := by decide +kernel
theorem dX6_counted_71 : decode cX6_counted 71 = .ok (.aload_n 0, 1) := by decide +kernel
theorem dX6_counted_72 : decode cX6_counted 72 = .ok (.invokevirtual 184, 3) := by decide +kernel
theorem dX6_counted_75 : decode cX6_counted 75 = .ok (.ireturn, 1) := by decide +kernel
theorem dX6_counted_76 : decode cX6_counted 76 = .ok (.aload_n 0, 1) := by decide +kernel
theorem dX6_counted_77 : decode cX6_counted 77 = .ok (.getfield 7, 3) := by decide +kernel
theorem dX6_counted_80 : decode cX6_counted 80 = .ok (.iconst 4, 1) := by decide +kernel
theorem dX6_counted_81 : decode cX6_counted 81 = .ok (.iaload, 1) := by decide +kernel
theorem dX6_counted_82 : decode cX6_counted 82 = .ok (.ireturn, 1) := by decide +kernel
theorem dX6_counted_83 : decode cX6_counted 83 = .ok (.aload_n 0, 1) := by decide +kernel
theorem dX6_counted_84 : decode cX6_counted 84 = .ok (.getfield 7, 3) := by decide +kernel
theorem dX6_counted_87 : decode cX6_counted 87 = .ok (.iconst 2, 1) := by decide +kernel
theorem dX6_counted_88 : decode cX6_counted 88 = .ok (.iaload, 1) := by decide +kernel
theorem dX6_counted_89 : decode cX6_counted 89 = .ok (.ireturn, 1) := by decide +kernel
theorem dX6_counted_90 : decode cX6_counted 90 = .ok (.aload_n 0, 1) := by decide +kernel
theorem dX6_counted_91 : decode cX6_counted 91 = .ok (.getfield 7, 3) := by decide +kernel
theorem dX6_counted_94 : decode cX6_counted 94 = .ok (.iconst 2, 1) := by decide +kernel
theorem dX6_counted_95 : decode cX6_counted 95 = .ok (.iaload, 1) := by decide +kernel
theorem dX6_counted_96 : decode cX6_counted 96 = .ok (.bipush 10, 2) := by decide +kernel
theorem dX6_counted_98 : decode cX6_counted 98 = .ok (.idiv, 1) := by decide +kernel
theorem dX6_counted_99 : decode cX6_counted 99 = .ok (.ireturn, 1) := by decide +kernel
theorem dX6_counted_100 : decode cX6_counted 100 = .ok (.aload_n 0, 1) := by decide +kernel
theorem dX6_counted_101 : decode cX6_counted 101 = .ok (.getfield 26, 3) := by decide +kernel
theorem dX6_counted_104 : decode cX6_counted 104 = .ok (.ireturn, 1) := by decide +kernel
theorem dX6_counted_105 : decode cX6_counted 105 = .ok (.aload_n 0, 1) := by decide +kernel
theorem dX6_counted_106 : decode cX6_counted 106 = .ok (.getfield 7, 3) := by decide +kernel
theorem dX6_counted_109 : decode cX6_counted 109 = .ok (.iload_n 1, 1) := by decide +kernel
theorem dX6_counted_110 : decode cX6_counted 110 = .ok (.iaload, 1) := by decide +kernel
theorem dX6_counted_111 : decode cX6_counted 111 = .ok (.ireturn, 1) := by decide +kernel
set_option maxRecDepth 20000 in
theorem ggX6_count_X6_within : GoodIn wsX6_count wsX6_within := goodIn_r _ [5] (by decide +kernel) (by decide +kernel)
set_option maxRecDepth 20000 in
theorem gX6_count_X6_within : GoodIn wsX6_count (va_wsS RX6 29 yX6_within wsX6_within) := goodIn_app (goodIn_of _ (by decide +kernel)) ggX6_count_X6_within
set_option maxRecDepth 20000 in
theorem ggX6_count_X6_counted : GoodIn wsX6_count wsX6_counted := goodIn_r _ [9, 10, 11, 12, 13, 14, 4, 15, 16, 17, 18, 19, 20, 21, 22, 23, 24, 25, 26, 27, 28, 29, 30] (by decide +kernel) (by decide +kernel)
set_option maxRecDepth 20000 in
theorem gX6_count_X6_counted : GoodIn wsX6_count (wsV RX6 187 RX6 yX6_counted wsX6_counted) := goodIn_app (goodIn_of _ (by decide +kernel)) ggX6_count_X6_counted
theorem dX6_count_0 : decode cX6_count 0 = .ok (.aload_n 0, 1) := by decide +kernel
theorem dX6_count_1 : decode cX6_count 1 = .ok (.iload_n 1, 1) := by decide +kernel
theorem dX6_count_2 : decode cX6_count 2 = .ok (.iconst 0, 1) := by decide +kernel
theorem dX6_count_3 : decode cX6_count 3 = .ok (.bipush 11, 2) := by decide +kernel
theorem dX6_count_5 : decode cX6_count 5 = .ok (.invokestatic 29, 3) := by decide +kernel
theorem dX6_count_8 : decode cX6_count 8 = .ok (.ifCond .eq 7, 3) := by decide +kernel
theorem dX6_count_11 : decode cX6_count 11 = .ok (.iconst 0, 1) := by decide +kernel
theorem dX6_count_12 : decode cX6_count 12 = .ok (.goto 4, 3) := by decide +kernel
theorem dX6_count_15 : decode cX6_count 15 = .ok (.iconst 1, 1) := by decide +kernel
theorem dX6_count_16 : decode cX6_count 16 = .ok (.putfield 22, 3) := by decide +kernel
theorem dX6_count_19 : decode cX6_count 19 = .ok (.aload_n 0, 1) := by decide +kernel
theorem dX6_count_20 : decode cX6_count 20 = .ok (.getfield 22, 3) := by decide +kernel
theorem dX6_count_23 : decode cX6_count 23 = .ok (.ifCond .le 7, 3) := by decide +kernel
theorem dX6_count_26 : decode cX6_count 26 = .ok (.iconst 0, 1) := by decide +kernel
theorem dX6_count_27 : decode cX6_count 27 = .ok (.goto 8, 3) := by decide +kernel
theorem dX6_count_30 : decode cX6_count 30 = .ok (.aload_n 0, 1) := by decide +kernel
theorem dX6_count_31 : decode cX6_count 31 = .ok (.iload_n 1, 1) := by decide +kernel
theorem dX6_count_32 : decode cX6_count 32 = .ok (.invokevirtual 187, 3) := by decide +kernel
theorem dX6_count_35 : decode cX6_count 35 = .ok (.ireturn, 1) := by decide +kernel
set_option maxRecDepth 20000 in
theorem ggX6_setting_X6_isSetting : GoodIn wsX6_setting wsX6_isSetting := goodIn_r _ [6, 7, 8, 5, 9] (by decide +kernel) (by decide +kernel)
set_option maxRecDepth 20000 in
theorem gX6_setting_X6_isSetting : GoodIn wsX6_setting (va_wsS RX6 136 yX6_isSetting wsX6_isSetting) := goodIn_app (goodIn_of _ (by decide +kernel)) ggX6_setting_X6_isSetting
theorem dX6_setting_0 : decode cX6_setting 0 = .ok (.aload_n 0, 1) := by decide +kernel
theorem dX6_setting_1 : decode cX6_setting 1 = .ok (.iload_n 1, 1) := by decide +kernel
theorem dX6_setting_2 : decode cX6_setting 2 = .ok (.invokestatic 136, 3) := by decide +kernel
theorem dX6_setting_5 : decode cX6_setting 5 = .ok (.ifCond .eq 7, 3) := by decide +kernel
theorem dX6_setting_8 : decode cX6_setting 8 = .ok (.iconst 0, 1) := by decide +kernel
theorem dX6_setting_9 : decode cX6_setting 9 = .ok (.goto 4, 3) := by decide +kernel
theorem dX6_setting_12 : decode cX6_setting 12 = .ok (.iconst 1, 1) := by decide +kernel
theorem dX6_setting_13 : decode cX6_setting 13 = .ok (.putfield 22, 3) := by decide +kernel
theorem dX6_setting_16 : decode cX6_setting 16 = .ok (.aload_n 0, 1) := by decide +kernel
theorem dX6_setting_17 : decode cX6_setting 17 = .ok (.getfield 22, 3) := by decide +kernel
theorem dX6_setting_20 : decode cX6_setting 20 = .ok (.ifCond .le 7, 3) := by decide +kernel
theorem dX6_setting_23 : decode cX6_setting 23 = .ok (.iconst 0, 1) := by decide +kernel
theorem dX6_setting_24 : decode cX6_setting 24 = .ok (.goto 9, 3) := by decide +kernel
theorem dX6_setting_27 : decode cX6_setting 27 = .ok (.aload_n 0, 1) := by decide +kernel
theorem dX6_setting_28 : decode cX6_setting 28 = .ok (.getfield 7, 3) := by decide +kernel
theorem dX6_setting_31 : decode cX6_setting 31 = .ok (.iload_n 1, 1) := by decide +kernel
theorem dX6_setting_32 : decode cX6_setting 32 = .ok (.iaload, 1) := by decide +kernel
theorem dX6_setting_33 : decode cX6_setting 33 = .ok (.ireturn, 1) := by decide +kernel
set_option maxRecDepth 20000 in
theorem ggX6_whyNot_X6_isMandate : GoodIn wsX6_whyNot wsX6_isMandate := goodIn_r _ [6, 7, 8, 9, 5, 10, 34, 35, 36, 37, 38, 39, 40, 41, 42, 43, 44] (by decide +kernel) (by decide +kernel)
set_option maxRecDepth 20000 in
theorem gX6_whyNot_X6_isMandate : GoodIn wsX6_whyNot (wsV RX6 87 RX6 yX6_isMandate wsX6_isMandate) := goodIn_app (goodIn_of _ (by decide +kernel)) ggX6_whyNot_X6_isMandate
set_option maxRecDepth 20000 in
theorem ggX6_whyNot_X6_isMoney : GoodIn wsX6_whyNot wsX6_isMoney := goodIn_r _ [13, 8, 9, 5, 10] (by decide +kernel) (by decide +kernel)
set_option maxRecDepth 20000 in
theorem gX6_whyNot_X6_isMoney : GoodIn wsX6_whyNot (va_wsS RX6 84 yX6_isMoney wsX6_isMoney) := goodIn_app (goodIn_of _ (by decide +kernel)) ggX6_whyNot_X6_isMoney
set_option maxRecDepth 20000 in
theorem ggX6_whyNot_X6_reason : GoodIn wsX6_whyNot wsX6_reason := goodIn_r _ [17, 18, 19, 20, 5, 21, 22, 23, 24, 25, 7, 26, 27, 28, 29, 30, 31, 32, 33, 34, 35, 36, 37, 38, 39, 40, 41, 42, 43, 44] (by decide +kernel) (by decide +kernel)
set_option maxRecDepth 20000 in
theorem gX6_whyNot_X6_reason : GoodIn wsX6_whyNot (wsV RX6 105 RX6 yX6_reason wsX6_reason) := goodIn_app (goodIn_of _ (by decide +kernel)) ggX6_whyNot_X6_reason
theorem dX6_whyNot_0 : decode cX6_whyNot 0 = .ok (.aload_n 0, 1) := by decide +kernel
theorem dX6_whyNot_1 : decode cX6_whyNot 1 = .ok (.aload_n 0, 1) := by decide +kernel
theorem dX6_whyNot_2 : decode cX6_whyNot 2 = .ok (.iload_n 1, 1) := by decide +kernel
theorem dX6_whyNot_3 : decode cX6_whyNot 3 = .ok (.invokevirtual 87, 3) := by decide +kernel
theorem dX6_whyNot_6 : decode cX6_whyNot 6 = .ok (.ifCond .ne 7, 3) := by decide +kernel
theorem dX6_whyNot_9 : decode cX6_whyNot 9 = .ok (.iconst 1, 1) := by decide +kernel
theorem dX6_whyNot_10 : decode cX6_whyNot 10 = .ok (.goto 15, 3) := by decide +kernel
theorem dX6_whyNot_13 : decode cX6_whyNot 13 = .ok (.iload_n 2, 1) := by decide +kernel
theorem dX6_whyNot_14 : decode cX6_whyNot 14 = .ok (.invokestatic 84, 3) := by decide +kernel
theorem dX6_whyNot_17 : decode cX6_whyNot 17 = .ok (.ifCond .eq 7, 3) := by decide +kernel
theorem dX6_whyNot_20 : decode cX6_whyNot 20 = .ok (.iconst 0, 1) := by decide +kernel
theorem dX6_whyNot_21 : decode cX6_whyNot 21 = .ok (.goto 4, 3) := by decide +kernel
theorem dX6_whyNot_24 : decode cX6_whyNot 24 = .ok (.iconst 2, 1) := by decide +kernel
theorem dX6_whyNot_25 : decode cX6_whyNot 25 = .ok (.putfield 22, 3) := by decide +kernel
theorem dX6_whyNot_28 : decode cX6_whyNot 28 = .ok (.aload_n 0, 1) := by decide +kernel
theorem dX6_whyNot_29 : decode cX6_whyNot 29 = .ok (.getfield 22, 3) := by decide +kernel
theorem dX6_whyNot_32 : decode cX6_whyNot 32 = .ok (.ifCond .le 7, 3) := by decide +kernel
theorem dX6_whyNot_35 : decode cX6_whyNot 35 = .ok (.iconst 0, 1) := by decide +kernel
theorem dX6_whyNot_36 : decode cX6_whyNot 36 = .ok (.goto 9, 3) := by decide +kernel
theorem dX6_whyNot_39 : decode cX6_whyNot 39 = .ok (.aload_n 0, 1) := by decide +kernel
theorem dX6_whyNot_40 : decode cX6_whyNot 40 = .ok (.iload_n 1, 1) := by decide +kernel
theorem dX6_whyNot_41 : decode cX6_whyNot 41 = .ok (.iload_n 2, 1) := by decide +kernel
theorem dX6_whyNot_42 : decode cX6_whyNot 42 = .ok (.invokevirtual 105, 3) := by decide +kernel
theorem dX6_whyNot_45 : decode cX6_whyNot 45 = .ok (.ireturn, 1) := by decide +kernel
set_option maxRecDepth 20000 in
theorem ggX6_roomOf_X6_narrowestOf : GoodIn wsX6_roomOf wsX6_narrowestOf := goodIn_r _ [5, 6, 7, 8, 4, 9, 10, 11, 12, 13, 14, 19, 20, 21, 22, 23, 24, 25, 26, 27, 28, 29] (by decide +kernel) (by decide +kernel)
set_option maxRecDepth 20000 in
theorem gX6_roomOf_X6_narrowestOf : GoodIn wsX6_roomOf (wsV RX6 102 RX6 yX6_narrowestOf wsX6_narrowestOf) := goodIn_app (goodIn_of _ (by decide +kernel)) ggX6_roomOf_X6_narrowestOf
set_option maxRecDepth 20000 in
theorem ggX6_roomOf_X6_gapOf : GoodIn wsX6_roomOf wsX6_gapOf := goodIn_r _ [9, 10, 11, 12, 4, 13, 14, 19, 20, 21, 22, 23, 24, 25, 26, 27, 28, 29] (by decide +kernel) (by decide +kernel)
set_option maxRecDepth 20000 in
theorem gX6_roomOf_X6_gapOf : GoodIn wsX6_roomOf (wsV RX6 37 RX6 yX6_gapOf wsX6_gapOf) := goodIn_app (goodIn_of _ (by decide +kernel)) ggX6_roomOf_X6_gapOf
set_option maxRecDepth 20000 in
theorem ggX6_roomOf_X6_of : GoodIn wsX6_roomOf wsX6_of := goodIn_r _ [13, 14, 19, 20, 21, 22, 23, 24, 25, 26, 27, 28, 29] (by decide +kernel) (by decide +kernel)
set_option maxRecDepth 20000 in
theorem gX6_roomOf_X6_of : GoodIn wsX6_roomOf (wsV RX6 33 RX6 yX6_of wsX6_of) := goodIn_app (goodIn_of _ (by decide +kernel)) ggX6_roomOf_X6_of
set_option maxRecDepth 20000 in
theorem ggX6_roomOf_X6_stands : GoodIn wsX6_roomOf wsX6_stands := goodIn_r _ [18, 10, 11, 12, 4, 13, 14, 19, 20, 21, 22, 23, 24, 25, 26, 27, 28, 29] (by decide +kernel) (by decide +kernel)
set_option maxRecDepth 20000 in
theorem gX6_roomOf_X6_stands : GoodIn wsX6_roomOf (wsV RX6 41 RX6 yX6_stands wsX6_stands) := goodIn_app (goodIn_of _ (by decide +kernel)) ggX6_roomOf_X6_stands
theorem dX6_roomOf_0 : decode cX6_roomOf 0 = .ok (.aload_n 0, 1) := by decide +kernel
theorem dX6_roomOf_1 : decode cX6_roomOf 1 = .ok (.aload_n 0, 1) := by decide +kernel
theorem dX6_roomOf_2 : decode cX6_roomOf 2 = .ok (.iload_n 1, 1) := by decide +kernel
theorem dX6_roomOf_3 : decode cX6_roomOf 3 = .ok (.invokevirtual 102, 3) := by decide +kernel
theorem dX6_roomOf_6 : decode cX6_roomOf 6 = .ok (.invokevirtual 37, 3) := by decide +kernel
theorem dX6_roomOf_9 : decode cX6_roomOf 9 = .ok (.istore_n 3, 1) := by decide +kernel
theorem dX6_roomOf_10 : decode cX6_roomOf 10 = .ok (.iload_n 2, 1) := by decide +kernel
theorem dX6_roomOf_11 : decode cX6_roomOf 11 = .ok (.ifCond .eq 14, 3) := by decide +kernel
theorem dX6_roomOf_14 : decode cX6_roomOf 14 = .ok (.aload_n 0, 1) := by decide +kernel
theorem dX6_roomOf_15 : decode cX6_roomOf 15 = .ok (.iload_n 1, 1) := by decide +kernel
theorem dX6_roomOf_16 : decode cX6_roomOf 16 = .ok (.iconst 2, 1) := by decide +kernel
theorem dX6_roomOf_17 : decode cX6_roomOf 17 = .ok (.invokevirtual 33, 3) := by decide +kernel
theorem dX6_roomOf_20 : decode cX6_roomOf 20 = .ok (.iconst 2, 1) := by decide +kernel
theorem dX6_roomOf_21 : decode cX6_roomOf 21 = .ok (.idiv, 1) := by decide +kernel
theorem dX6_roomOf_22 : decode cX6_roomOf 22 = .ok (.goto 9, 3) := by decide +kernel
theorem dX6_roomOf_25 : decode cX6_roomOf 25 = .ok (.aload_n 0, 1) := by decide +kernel
theorem dX6_roomOf_26 : decode cX6_roomOf 26 = .ok (.iload_n 1, 1) := by decide +kernel
theorem dX6_roomOf_27 : decode cX6_roomOf 27 = .ok (.iconst 2, 1) := by decide +kernel
theorem dX6_roomOf_28 : decode cX6_roomOf 28 = .ok (.invokevirtual 33, 3) := by decide +kernel
theorem dX6_roomOf_31 : decode cX6_roomOf 31 = .ok (.istore 4, 2) := by decide +kernel
theorem dX6_roomOf_33 : decode cX6_roomOf 33 = .ok (.iload_n 3, 1) := by decide +kernel
theorem dX6_roomOf_34 : decode cX6_roomOf 34 = .ok (.iload 4, 2) := by decide +kernel
theorem dX6_roomOf_36 : decode cX6_roomOf 36 = .ok (.if_icmp .ge 7, 3) := by decide +kernel
theorem dX6_roomOf_39 : decode cX6_roomOf 39 = .ok (.iload_n 3, 1) := by decide +kernel
theorem dX6_roomOf_40 : decode cX6_roomOf 40 = .ok (.goto 5, 3) := by decide +kernel
theorem dX6_roomOf_43 : decode cX6_roomOf 43 = .ok (.iload 4, 2) := by decide +kernel
theorem dX6_roomOf_45 : decode cX6_roomOf 45 = .ok (.istore 5, 2) := by decide +kernel
theorem dX6_roomOf_47 : decode cX6_roomOf 47 = .ok (.aload_n 0, 1) := by decide +kernel
theorem dX6_roomOf_48 : decode cX6_roomOf 48 = .ok (.iload_n 1, 1) := by decide +kernel
theorem dX6_roomOf_49 : decode cX6_roomOf 49 = .ok (.invokevirtual 41, 3) := by decide +kernel
theorem dX6_roomOf_52 : decode cX6_roomOf 52 = .ok (.ifCond .eq 13, 3) := by decide +kernel
theorem dX6_roomOf_55 : decode cX6_roomOf 55 = .ok (.iload 5, 2) := by decide +kernel
theorem dX6_roomOf_57 : decode cX6_roomOf 57 = .ok (.ifCond .le 8, 3) := by decide +kernel
theorem dX6_roomOf_60 : decode cX6_roomOf 60 = .ok (.iload 5, 2) := by decide +kernel
theorem dX6_roomOf_62 : decode cX6_roomOf 62 = .ok (.goto 4, 3) := by decide +kernel
theorem dX6_roomOf_65 : decode cX6_roomOf 65 = .ok (.iconst 0, 1) := by decide +kernel
theorem dX6_roomOf_66 : decode cX6_roomOf 66 = .ok (.ireturn, 1) := by decide +kernel
set_option maxRecDepth 20000 in
theorem ggX6_room_X6_isMandate : GoodIn wsX6_room wsX6_isMandate := goodIn_r _ [6, 7, 8, 9, 5, 10, 31, 32, 33, 34, 35, 36, 37, 38, 39, 40, 41] (by decide +kernel) (by decide +kernel)
set_option maxRecDepth 20000 in
theorem gX6_room_X6_isMandate : GoodIn wsX6_room (wsV RX6 87 RX6 yX6_isMandate wsX6_isMandate) := goodIn_app (goodIn_of _ (by decide +kernel)) ggX6_room_X6_isMandate
set_option maxRecDepth 20000 in
theorem ggX6_room_X6_roomOf : GoodIn wsX6_room wsX6_roomOf := goodIn_r _ [14, 15, 16, 17, 5, 18, 19, 20, 21, 22, 23, 24, 25, 26, 7, 27, 28, 29, 30, 31, 32, 33, 34, 35, 36, 37, 38, 39, 40, 41] (by decide +kernel) (by decide +kernel)
set_option maxRecDepth 20000 in
theorem gX6_room_X6_roomOf : GoodIn wsX6_room (wsV RX6 190 RX6 yX6_roomOf wsX6_roomOf) := goodIn_app (goodIn_of _ (by decide +kernel)) ggX6_room_X6_roomOf
theorem dX6_room_0 : decode cX6_room 0 = .ok (.aload_n 0, 1) := by decide +kernel
theorem dX6_room_1 : decode cX6_room 1 = .ok (.aload_n 0, 1) := by decide +kernel
theorem dX6_room_2 : decode cX6_room 2 = .ok (.iload_n 1, 1) := by decide +kernel
theorem dX6_room_3 : decode cX6_room 3 = .ok (.invokevirtual 87, 3) := by decide +kernel
theorem dX6_room_6 : decode cX6_room 6 = .ok (.ifCond .eq 7, 3) := by decide +kernel
theorem dX6_room_9 : decode cX6_room 9 = .ok (.iconst 0, 1) := by decide +kernel
theorem dX6_room_10 : decode cX6_room 10 = .ok (.goto 4, 3) := by decide +kernel
theorem dX6_room_13 : decode cX6_room 13 = .ok (.iconst 1, 1) := by decide +kernel
theorem dX6_room_14 : decode cX6_room 14 = .ok (.putfield 22, 3) := by decide +kernel
theorem dX6_room_17 : decode cX6_room 17 = .ok (.aload_n 0, 1) := by decide +kernel
theorem dX6_room_18 : decode cX6_room 18 = .ok (.getfield 22, 3) := by decide +kernel
theorem dX6_room_21 : decode cX6_room 21 = .ok (.ifCond .le 7, 3) := by decide +kernel
theorem dX6_room_24 : decode cX6_room 24 = .ok (.iconst 0, 1) := by decide +kernel
theorem dX6_room_25 : decode cX6_room 25 = .ok (.goto 9, 3) := by decide +kernel
theorem dX6_room_28 : decode cX6_room 28 = .ok (.aload_n 0, 1) := by decide +kernel
theorem dX6_room_29 : decode cX6_room 29 = .ok (.iload_n 1, 1) := by decide +kernel
theorem dX6_room_30 : decode cX6_room 30 = .ok (.iload_n 2, 1) := by decide +kernel
theorem dX6_room_31 : decode cX6_room 31 = .ok (.invokevirtual 190, 3) := by decide +kernel
theorem dX6_room_34 : decode cX6_room 34 = .ok (.ireturn, 1) := by decide +kernel
set_option maxRecDepth 20000 in
theorem ggX6_lapsing_X6_stands : GoodIn wsX6_lapsing wsX6_stands := goodIn_r _ [5, 6, 7, 8, 4, 9, 10, 19, 20, 21, 22, 23, 24, 25, 26, 27, 28, 29] (by decide +kernel) (by decide +kernel)
set_option maxRecDepth 20000 in
theorem gX6_lapsing_X6_stands : GoodIn wsX6_lapsing (wsV RX6 41 RX6 yX6_stands wsX6_stands) := goodIn_app (goodIn_of _ (by decide +kernel)) ggX6_lapsing_X6_stands
set_option maxRecDepth 20000 in
theorem ggX6_lapsing_X6_standingUnder : GoodIn wsX6_lapsing wsX6_standingUnder := goodIn_r _ [14, 10, 1, 2, 3, 4, 5, 6, 7, 8, 9, 15, 16, 17, 18, 19, 20, 21, 22, 23, 24, 25, 26, 27, 28, 29] (by decide +kernel) (by decide +kernel)
set_option maxRecDepth 20000 in
theorem gX6_lapsing_X6_standingUnder : GoodIn wsX6_lapsing (wsV RX6 49 RX6 yX6_standingUnder wsX6_standingUnder) := goodIn_app (goodIn_of _ (by decide +kernel)) ggX6_lapsing_X6_standingUnder
theorem dX6_lapsing_0 : decode cX6_lapsing 0 = .ok (.aload_n 0, 1) := by decide +kernel
theorem dX6_lapsing_1 : decode cX6_lapsing 1 = .ok (.iload_n 1, 1) := by decide +kernel
theorem dX6_lapsing_2 : decode cX6_lapsing 2 = .ok (.invokevirtual 41, 3) := by decide +kernel
theorem dX6_lapsing_5 : decode cX6_lapsing 5 = .ok (.ifCond .eq 11, 3) := by decide +kernel
theorem dX6_lapsing_8 : decode cX6_lapsing 8 = .ok (.aload_n 0, 1) := by decide +kernel
theorem dX6_lapsing_9 : decode cX6_lapsing 9 = .ok (.iload_n 1, 1) := by decide +kernel
theorem dX6_lapsing_10 : decode cX6_lapsing 10 = .ok (.invokevirtual 49, 3) := by decide +kernel
theorem dX6_lapsing_13 : decode cX6_lapsing 13 = .ok (.goto 4, 3) := by decide +kernel
theorem dX6_lapsing_16 : decode cX6_lapsing 16 = .ok (.iconst 0, 1) := by decide +kernel
theorem dX6_lapsing_17 : decode cX6_lapsing 17 = .ok (.ireturn, 1) := by decide +kernel
set_option maxRecDepth 20000 in
theorem ggX6_under_X6_isMandate : GoodIn wsX6_under wsX6_isMandate := goodIn_r _ [6, 7, 8, 9, 5, 10, 31, 32, 33, 34, 35, 36, 37, 38, 39, 40, 41] (by decide +kernel) (by decide +kernel)
set_option maxRecDepth 20000 in
theorem gX6_under_X6_isMandate : GoodIn wsX6_under (wsV RX6 87 RX6 yX6_isMandate wsX6_isMandate) := goodIn_app (goodIn_of _ (by decide +kernel)) ggX6_under_X6_isMandate
set_option maxRecDepth 20000 in
theorem ggX6_under_X6_lapsing : GoodIn wsX6_under wsX6_lapsing := goodIn_r _ [14, 15, 16, 17, 5, 18, 19, 20, 21, 22, 7, 23, 24, 25, 26, 27, 28, 29, 30, 31, 32, 33, 34, 35, 36, 37, 38, 39, 40, 41] (by decide +kernel) (by decide +kernel)
set_option maxRecDepth 20000 in
theorem gX6_under_X6_lapsing : GoodIn wsX6_under (wsV RX6 194 RX6 yX6_lapsing wsX6_lapsing) := goodIn_app (goodIn_of _ (by decide +kernel)) ggX6_under_X6_lapsing
theorem dX6_under_0 : decode cX6_under 0 = .ok (.aload_n 0, 1) := by decide +kernel
theorem dX6_under_1 : decode cX6_under 1 = .ok (.aload_n 0, 1) := by decide +kernel
theorem dX6_under_2 : decode cX6_under 2 = .ok (.iload_n 1, 1) := by decide +kernel
theorem dX6_under_3 : decode cX6_under 3 = .ok (.invokevirtual 87, 3) := by decide +kernel
theorem dX6_under_6 : decode cX6_under 6 = .ok (.ifCond .eq 7, 3) := by decide +kernel
theorem dX6_under_9 : decode cX6_under 9 = .ok (.iconst 0, 1) := by decide +kernel
theorem dX6_under_10 : decode cX6_under 10 = .ok (.goto 4, 3) := by decide +kernel
theorem dX6_under_13 : decode cX6_under 13 = .ok (.iconst 1, 1) := by decide +kernel
theorem dX6_under_14 : decode cX6_under 14 = .ok (.putfield 22, 3) := by decide +kernel
theorem dX6_under_17 : decode cX6_under 17 = .ok (.aload_n 0, 1) := by decide +kernel
theorem dX6_under_18 : decode cX6_under 18 = .ok (.getfield 22, 3) := by decide +kernel
theorem dX6_under_21 : decode cX6_under 21 = .ok (.ifCond .le 7, 3) := by decide +kernel
theorem dX6_under_24 : decode cX6_under 24 = .ok (.iconst 0, 1) := by decide +kernel
theorem dX6_under_25 : decode cX6_under 25 = .ok (.goto 8, 3) := by decide +kernel
theorem dX6_under_28 : decode cX6_under 28 = .ok (.aload_n 0, 1) := by decide +kernel
theorem dX6_under_29 : decode cX6_under 29 = .ok (.iload_n 1, 1) := by decide +kernel
theorem dX6_under_30 : decode cX6_under 30 = .ok (.invokevirtual 194, 3) := by decide +kernel
theorem dX6_under_33 : decode cX6_under 33 = .ok (.ireturn, 1) := by decide +kernel
set_option maxRecDepth 20000 in
theorem ggX6_narrowest_X6_isMandate : GoodIn wsX6_narrowest wsX6_isMandate := goodIn_r _ [6, 7, 8, 9, 5, 10, 23, 24, 25, 26, 27, 28, 29, 30, 31, 32, 33] (by decide +kernel) (by decide +kernel)
set_option maxRecDepth 20000 in
theorem gX6_narrowest_X6_isMandate : GoodIn wsX6_narrowest (wsV RX6 87 RX6 yX6_isMandate wsX6_isMandate) := goodIn_app (goodIn_of _ (by decide +kernel)) ggX6_narrowest_X6_isMandate
set_option maxRecDepth 20000 in
theorem ggX6_narrowest_X6_narrowestOf : GoodIn wsX6_narrowest wsX6_narrowestOf := goodIn_r _ [14, 15, 16, 17, 5, 18, 19, 20, 21, 22, 7, 23, 24, 25, 26, 27, 28, 29, 30, 31, 32, 33] (by decide +kernel) (by decide +kernel)
set_option maxRecDepth 20000 in
theorem gX6_narrowest_X6_narrowestOf : GoodIn wsX6_narrowest (wsV RX6 102 RX6 yX6_narrowestOf wsX6_narrowestOf) := goodIn_app (goodIn_of _ (by decide +kernel)) ggX6_narrowest_X6_narrowestOf
theorem dX6_narrowest_0 : decode cX6_narrowest 0 = .ok (.aload_n 0, 1) := by decide +kernel
theorem dX6_narrowest_1 : decode cX6_narrowest 1 = .ok (.aload_n 0, 1) := by decide +kernel
theorem dX6_narrowest_2 : decode cX6_narrowest 2 = .ok (.iload_n 1, 1) := by decide +kernel
theorem dX6_narrowest_3 : decode cX6_narrowest 3 = .ok (.invokevirtual 87, 3) := by decide +kernel
theorem dX6_narrowest_6 : decode cX6_narrowest 6 = .ok (.ifCond .eq 7, 3) := by decide +kernel
theorem dX6_narrowest_9 : decode cX6_narrowest 9 = .ok (.iconst 0, 1) := by decide +kernel
theorem dX6_narrowest_10 : decode cX6_narrowest 10 = .ok (.goto 4, 3) := by decide +kernel
theorem dX6_narrowest_13 : decode cX6_narrowest 13 = .ok (.iconst 1, 1) := by decide +kernel
theorem dX6_narrowest_14 : decode cX6_narrowest 14 = .ok (.putfield 22, 3) := by decide +kernel
theorem dX6_narrowest_17 : decode cX6_narrowest 17 = .ok (.aload_n 0, 1) := by decide +kernel
theorem dX6_narrowest_18 : decode cX6_narrowest 18 = .ok (.getfield 22, 3) := by decide +kernel
theorem dX6_narrowest_21 : decode cX6_narrowest 21 = .ok (.ifCond .le 7, 3) := by decide +kernel
theorem dX6_narrowest_24 : decode cX6_narrowest 24 = .ok (.iconst 0, 1) := by decide +kernel
theorem dX6_narrowest_25 : decode cX6_narrowest 25 = .ok (.goto 8, 3) := by decide +kernel
theorem dX6_narrowest_28 : decode cX6_narrowest 28 = .ok (.aload_n 0, 1) := by decide +kernel
theorem dX6_narrowest_29 : decode cX6_narrowest 29 = .ok (.iload_n 1, 1) := by decide +kernel
theorem dX6_narrowest_30 : decode cX6_narrowest 30 = .ok (.invokevirtual 102, 3) := by decide +kernel
theorem dX6_narrowest_33 : decode cX6_narrowest 33 = .ok (.ireturn, 1) := by decide +kernel
set_option maxRecDepth 20000 in
theorem ggX6_daysLeft_X6_stands : GoodIn wsX6_daysLeft wsX6_stands := goodIn_r _ [6, 7, 8, 9, 5, 10, 1, 19, 20, 21, 22, 23, 24, 25, 26, 27, 28, 29] (by decide +kernel) (by decide +kernel)
set_option maxRecDepth 20000 in
theorem gX6_daysLeft_X6_stands : GoodIn wsX6_daysLeft (wsV RX6 41 RX6 yX6_stands wsX6_stands) := goodIn_app (goodIn_of _ (by decide +kernel)) ggX6_daysLeft_X6_stands
set_option maxRecDepth 20000 in
theorem ggX6_daysLeft_X6_ofRequest : GoodIn wsX6_daysLeft wsX6_ofRequest := goodIn_r _ [14, 1, 19, 20, 21, 22, 23, 24, 25, 26, 27, 28, 29] (by decide +kernel) (by decide +kernel)
set_option maxRecDepth 20000 in
theorem gX6_daysLeft_X6_ofRequest : GoodIn wsX6_daysLeft (wsV RX6 59 RX6 yX6_ofRequest wsX6_ofRequest) := goodIn_app (goodIn_of _ (by decide +kernel)) ggX6_daysLeft_X6_ofRequest
set_option maxRecDepth 20000 in
theorem ggX6_daysLeft_X6_isInChain : GoodIn wsX6_daysLeft wsX6_isInChain := goodIn_r _ [18, 7, 8, 9, 5, 10, 1, 19, 20, 21, 22, 23, 24, 25, 26, 27, 28, 29] (by decide +kernel) (by decide +kernel)
set_option maxRecDepth 20000 in
theorem gX6_daysLeft_X6_isInChain : GoodIn wsX6_daysLeft (wsV RX6 45 RX6 yX6_isInChain wsX6_isInChain) := goodIn_app (goodIn_of _ (by decide +kernel)) ggX6_daysLeft_X6_isInChain
theorem dX6_daysLeft_0 : decode cX6_daysLeft 0 = .ok (.iconst (-1), 1) := by decide +kernel
theorem dX6_daysLeft_1 : decode cX6_daysLeft 1 = .ok (.istore_n 2, 1) := by decide +kernel
theorem dX6_daysLeft_2 : decode cX6_daysLeft 2 = .ok (.iconst 0, 1) := by decide +kernel
theorem dX6_daysLeft_3 : decode cX6_daysLeft 3 = .ok (.istore_n 3, 1) := by decide +kernel
theorem dX6_daysLeft_4 : decode cX6_daysLeft 4 = .ok (.iload_n 3, 1) := by decide +kernel
theorem dX6_daysLeft_5 : decode cX6_daysLeft 5 = .ok (.aload_n 0, 1) := by decide +kernel
theorem dX6_daysLeft_6 : decode cX6_daysLeft 6 = .ok (.getfield 7, 3) := by decide +kernel
theorem dX6_daysLeft_9 : decode cX6_daysLeft 9 = .ok (.iconst 4, 1) := by decide +kernel
theorem dX6_daysLeft_10 : decode cX6_daysLeft 10 = .ok (.iaload, 1) := by decide +kernel
theorem dX6_daysLeft_11 : decode cX6_daysLeft 11 = .ok (.if_icmp .ge 109, 3) := by decide +kernel
theorem dX6_daysLeft_14 : decode cX6_daysLeft 14 = .ok (.aload_n 0, 1) := by decide +kernel
theorem dX6_daysLeft_15 : decode cX6_daysLeft 15 = .ok (.iload_n 1, 1) := by decide +kernel
theorem dX6_daysLeft_16 : decode cX6_daysLeft 16 = .ok (.invokevirtual 41, 3) := by decide +kernel
theorem dX6_daysLeft_19 : decode cX6_daysLeft 19 = .ok (.ifCond .eq 101, 3) := by decide +kernel
theorem dX6_daysLeft_22 : decode cX6_daysLeft 22 = .ok (.aload_n 0, 1) := by decide +kernel
theorem dX6_daysLeft_23 : decode cX6_daysLeft 23 = .ok (.iload_n 3, 1) := by decide +kernel
theorem dX6_daysLeft_24 : decode cX6_daysLeft 24 = .ok (.iconst 2, 1) := by decide +kernel
theorem dX6_daysLeft_25 : decode cX6_daysLeft 25 = .ok (.invokevirtual 59, 3) := by decide +kernel
theorem dX6_daysLeft_28 : decode cX6_daysLeft 28 = .ok (.aload_n 0, 1) := by decide +kernel
theorem dX6_daysLeft_29 : decode cX6_daysLeft 29 = .ok (.getfield 7, 3) := by decide +kernel
theorem dX6_daysLeft_32 : decode cX6_daysLeft 32 = .ok (.iconst 0, 1) := by decide +kernel
theorem dX6_daysLeft_33 : decode cX6_daysLeft 33 = .ok (.iaload, 1) := by decide +kernel
theorem dX6_daysLeft_34 : decode cX6_daysLeft 34 = .ok (.iadd, 1) := by decide +kernel
theorem dX6_daysLeft_35 : decode cX6_daysLeft 35 = .ok (.iconst 1, 1) := by decide +kernel
theorem dX6_daysLeft_36 : decode cX6_daysLeft 36 = .ok (.iadd, 1) := by decide +kernel
theorem dX6_daysLeft_37 : decode cX6_daysLeft 37 = .ok (.aload_n 0, 1) := by decide +kernel
theorem dX6_daysLeft_38 : decode cX6_daysLeft 38 = .ok (.getfield 7, 3) := by decide +kernel
theorem dX6_daysLeft_41 : decode cX6_daysLeft 41 = .ok (.iconst 2, 1) := by decide +kernel
theorem dX6_daysLeft_42 : decode cX6_daysLeft 42 = .ok (.iaload, 1) := by decide +kernel
theorem dX6_daysLeft_43 : decode cX6_daysLeft 43 = .ok (.isub, 1) := by decide +kernel
theorem dX6_daysLeft_44 : decode cX6_daysLeft 44 = .ok (.istore 4, 2) := by decide +kernel
theorem dX6_daysLeft_46 : decode cX6_daysLeft 46 = .ok (.iload 4, 2) := by decide +kernel
theorem dX6_daysLeft_48 : decode cX6_daysLeft 48 = .ok (.iconst 1, 1) := by decide +kernel
theorem dX6_daysLeft_49 : decode cX6_daysLeft 49 = .ok (.if_icmp .ge 7, 3) := by decide +kernel
theorem dX6_daysLeft_52 : decode cX6_daysLeft 52 = .ok (.iconst 1, 1) := by decide +kernel
theorem dX6_daysLeft_53 : decode cX6_daysLeft 53 = .ok (.goto 5, 3) := by decide +kernel
theorem dX6_daysLeft_56 : decode cX6_daysLeft 56 = .ok (.iload 4, 2) := by decide +kernel
theorem dX6_daysLeft_58 : decode cX6_daysLeft 58 = .ok (.istore 4, 2) := by decide +kernel
theorem dX6_daysLeft_60 : decode cX6_daysLeft 60 = .ok (.aload_n 0, 1) := by decide +kernel
theorem dX6_daysLeft_61 : decode cX6_daysLeft 61 = .ok (.iload_n 3, 1) := by decide +kernel
theorem dX6_daysLeft_62 : decode cX6_daysLeft 62 = .ok (.iconst 3, 1) := by decide +kernel
theorem dX6_daysLeft_63 : decode cX6_daysLeft 63 = .ok (.invokevirtual 59, 3) := by decide +kernel
theorem dX6_daysLeft_66 : decode cX6_daysLeft 66 = .ok (.iconst 1, 1) := by decide +kernel
theorem dX6_daysLeft_67 : decode cX6_daysLeft 67 = .ok (.if_icmp .ne 21, 3) := by decide +kernel
theorem dX6_daysLeft_70 : decode cX6_daysLeft 70 = .ok (.aload_n 0, 1) := by decide +kernel
theorem dX6_daysLeft_71 : decode cX6_daysLeft 71 = .ok (.aload_n 0, 1) := by decide +kernel
theorem dX6_daysLeft_72 : decode cX6_daysLeft 72 = .ok (.iload_n 3, 1) := by decide +kernel
theorem dX6_daysLeft_73 : decode cX6_daysLeft 73 = .ok (.iconst 0, 1) := by decide +kernel
theorem dX6_daysLeft_74 : decode cX6_daysLeft 74 = .ok (.invokevirtual 59, 3) := by decide +kernel
theorem dX6_daysLeft_77 : decode cX6_daysLeft 77 = .ok (.iload_n 1, 1) := by decide +kernel
theorem dX6_daysLeft_78 : decode cX6_daysLeft 78 = .ok (.invokevirtual 45, 3) := by decide +kernel
theorem dX6_daysLeft_81 : decode cX6_daysLeft 81 = .ok (.ifCond .eq 7, 3) := by decide +kernel
theorem dX6_daysLeft_84 : decode cX6_daysLeft 84 = .ok (.iconst 1, 1) := by decide +kernel
theorem dX6_daysLeft_85 : decode cX6_daysLeft 85 = .ok (.goto 4, 3) := by decide +kernel
theorem dX6_daysLeft_88 : decode cX6_daysLeft 88 = .ok (.iconst 0, 1) := by decide +kernel
theorem dX6_daysLeft_89 : decode cX6_daysLeft 89 = .ok (.istore 5, 2) := by decide +kernel
theorem dX6_daysLeft_91 : decode cX6_daysLeft 91 = .ok (.iload 5, 2) := by decide +kernel
theorem dX6_daysLeft_93 : decode cX6_daysLeft 93 = .ok (.ifCond .eq 19, 3) := by decide +kernel
theorem dX6_daysLeft_96 : decode cX6_daysLeft 96 = .ok (.iload_n 2, 1) := by decide +kernel
theorem dX6_daysLeft_97 : decode cX6_daysLeft 97 = .ok (.iconst (-1), 1) := by decide +kernel
theorem dX6_daysLeft_98 : decode cX6_daysLeft 98 = .ok (.if_icmp .eq 9, 3) := by decide +kernel
theorem dX6_daysLeft_101 : decode cX6_daysLeft 101 = .ok (.iload 4, 2) := by decide +kernel
theorem dX6_daysLeft_103 : decode cX6_daysLeft 103 = .ok (.iload_n 2, 1) := by decide +kernel
theorem dX6_daysLeft_104 : decode cX6_daysLeft 104 = .ok (.if_icmp .ge 8, 3) := by decide +kernel
theorem dX6_daysLeft_107 : decode cX6_daysLeft 107 = .ok (.iload 4, 2) := by decide +kernel
theorem dX6_daysLeft_109 : decode cX6_daysLeft 109 = .ok (.goto 4, 3) := by decide +kernel
theorem dX6_daysLeft_112 : decode cX6_daysLeft 112 = .ok (.iload_n 2, 1) := by decide +kernel
theorem dX6_daysLeft_113 : decode cX6_daysLeft 113 = .ok (.istore_n 2, 1) := by decide +kernel
theorem dX6_daysLeft_114 : decode cX6_daysLeft 114 = .ok (.iinc 3 1, 3) := by decide +kernel
theorem dX6_daysLeft_117 : decode cX6_daysLeft 117 = .ok (.goto (-113), 3) := by decide +kernel
theorem dX6_daysLeft_120 : decode cX6_daysLeft 120 = .ok (.iload_n 2, 1) := by decide +kernel
theorem dX6_daysLeft_121 : decode cX6_daysLeft 121 = .ok (.ireturn, 1) := by decide +kernel
set_option maxRecDepth 20000 in
theorem ggX6_lapsesIn_X6_isMandate : GoodIn wsX6_lapsesIn wsX6_isMandate := goodIn_r _ [6, 7, 8, 9, 5, 10, 31, 32, 33, 34, 35, 36, 37, 38, 39, 40, 41] (by decide +kernel) (by decide +kernel)
set_option maxRecDepth 20000 in
theorem gX6_lapsesIn_X6_isMandate : GoodIn wsX6_lapsesIn (wsV RX6 87 RX6 yX6_isMandate wsX6_isMandate) := goodIn_app (goodIn_of _ (by decide +kernel)) ggX6_lapsesIn_X6_isMandate
set_option maxRecDepth 20000 in
theorem ggX6_lapsesIn_X6_daysLeft : GoodIn wsX6_lapsesIn wsX6_daysLeft := goodIn_r _ [14, 7, 15, 16, 17, 5, 18, 19, 20, 21, 22, 23, 24, 25, 26, 27, 28, 29, 30, 31, 32, 33, 34, 35, 36, 37, 38, 39, 40, 41] (by decide +kernel) (by decide +kernel)
set_option maxRecDepth 20000 in
theorem gX6_lapsesIn_X6_daysLeft : GoodIn wsX6_lapsesIn (wsV RX6 197 RX6 yX6_daysLeft wsX6_daysLeft) := goodIn_app (goodIn_of _ (by decide +kernel)) ggX6_lapsesIn_X6_daysLeft
theorem dX6_lapsesIn_0 : decode cX6_lapsesIn 0 = .ok (.aload_n 0, 1) := by decide +kernel
theorem dX6_lapsesIn_1 : decode cX6_lapsesIn 1 = .ok (.aload_n 0, 1) := by decide +kernel
theorem dX6_lapsesIn_2 : decode cX6_lapsesIn 2 = .ok (.iload_n 1, 1) := by decide +kernel
theorem dX6_lapsesIn_3 : decode cX6_lapsesIn 3 = .ok (.invokevirtual 87, 3) := by decide +kernel
theorem dX6_lapsesIn_6 : decode cX6_lapsesIn 6 = .ok (.ifCond .eq 7, 3) := by decide +kernel
theorem dX6_lapsesIn_9 : decode cX6_lapsesIn 9 = .ok (.iconst 0, 1) := by decide +kernel
theorem dX6_lapsesIn_10 : decode cX6_lapsesIn 10 = .ok (.goto 4, 3) := by decide +kernel
theorem dX6_lapsesIn_13 : decode cX6_lapsesIn 13 = .ok (.iconst 1, 1) := by decide +kernel
theorem dX6_lapsesIn_14 : decode cX6_lapsesIn 14 = .ok (.putfield 22, 3) := by decide +kernel
theorem dX6_lapsesIn_17 : decode cX6_lapsesIn 17 = .ok (.aload_n 0, 1) := by decide +kernel
theorem dX6_lapsesIn_18 : decode cX6_lapsesIn 18 = .ok (.getfield 22, 3) := by decide +kernel
theorem dX6_lapsesIn_21 : decode cX6_lapsesIn 21 = .ok (.ifCond .le 7, 3) := by decide +kernel
theorem dX6_lapsesIn_24 : decode cX6_lapsesIn 24 = .ok (.iconst 0, 1) := by decide +kernel
theorem dX6_lapsesIn_25 : decode cX6_lapsesIn 25 = .ok (.goto 8, 3) := by decide +kernel
theorem dX6_lapsesIn_28 : decode cX6_lapsesIn 28 = .ok (.aload_n 0, 1) := by decide +kernel
theorem dX6_lapsesIn_29 : decode cX6_lapsesIn 29 = .ok (.iload_n 1, 1) := by decide +kernel
theorem dX6_lapsesIn_30 : decode cX6_lapsesIn 30 = .ok (.invokevirtual 197, 3) := by decide +kernel
theorem dX6_lapsesIn_33 : decode cX6_lapsesIn 33 = .ok (.ireturn, 1) := by decide +kernel
set_option maxRecDepth 20000 in
theorem ggX6_usedOf_X6_of : GoodIn wsX6_usedOf wsX6_of := goodIn_r _ [5, 6, 7, 8, 9, 10, 11, 12, 13, 14, 15, 16, 17] (by decide +kernel) (by decide +kernel)
set_option maxRecDepth 20000 in
theorem gX6_usedOf_X6_of : GoodIn wsX6_usedOf (wsV RX6 33 RX6 yX6_of wsX6_of) := goodIn_app (goodIn_of _ (by decide +kernel)) ggX6_usedOf_X6_of
theorem dX6_usedOf_0 : decode cX6_usedOf 0 = .ok (.aload_n 0, 1) := by decide +kernel
theorem dX6_usedOf_1 : decode cX6_usedOf 1 = .ok (.iload_n 1, 1) := by decide +kernel
theorem dX6_usedOf_2 : decode cX6_usedOf 2 = .ok (.bipush 6, 2) := by decide +kernel
theorem dX6_usedOf_4 : decode cX6_usedOf 4 = .ok (.invokevirtual 33, 3) := by decide +kernel
theorem dX6_usedOf_7 : decode cX6_usedOf 7 = .ok (.i2d, 1) := by decide +kernel
theorem dX6_usedOf_8 : decode cX6_usedOf 8 = .ok (.aload_n 0, 1) := by decide +kernel
theorem dX6_usedOf_9 : decode cX6_usedOf 9 = .ok (.iload_n 1, 1) := by decide +kernel
theorem dX6_usedOf_10 : decode cX6_usedOf 10 = .ok (.iconst 3, 1) := by decide +kernel
theorem dX6_usedOf_11 : decode cX6_usedOf 11 = .ok (.invokevirtual 33, 3) := by decide +kernel
theorem dX6_usedOf_14 : decode cX6_usedOf 14 = .ok (.i2d, 1) := by decide +kernel
theorem dX6_usedOf_15 : decode cX6_usedOf 15 = .ok (.ddiv, 1) := by decide +kernel
theorem dX6_usedOf_16 : decode cX6_usedOf 16 = .ok (.dreturn, 1) := by decide +kernel
set_option maxRecDepth 20000 in
theorem ggX6_usedShare_X6_isMandate : GoodIn wsX6_usedShare wsX6_isMandate := goodIn_r _ [6, 7, 8, 9, 5, 10, 19, 20, 21, 22, 23, 24, 25, 26, 27, 28, 29] (by decide +kernel) (by decide +kernel)
set_option maxRecDepth 20000 in
theorem gX6_usedShare_X6_isMandate : GoodIn wsX6_usedShare (wsV RX6 87 RX6 yX6_isMandate wsX6_isMandate) := goodIn_app (goodIn_of _ (by decide +kernel)) ggX6_usedShare_X6_isMandate
set_option maxRecDepth 20000 in
theorem ggX6_usedShare_X6_usedOf : GoodIn wsX6_usedShare wsX6_usedOf := goodIn_r _ [14, 15, 16, 17, 5, 18, 7, 19, 20, 21, 22, 23, 24, 25, 26, 27, 28, 29] (by decide +kernel) (by decide +kernel)
set_option maxRecDepth 20000 in
theorem gX6_usedShare_X6_usedOf : GoodIn wsX6_usedShare (wsV RX6 200 RX6 yX6_usedOf wsX6_usedOf) := goodIn_app (goodIn_of _ (by decide +kernel)) ggX6_usedShare_X6_usedOf
theorem dX6_usedShare_0 : decode cX6_usedShare 0 = .ok (.aload_n 0, 1) := by decide +kernel
theorem dX6_usedShare_1 : decode cX6_usedShare 1 = .ok (.aload_n 0, 1) := by decide +kernel
theorem dX6_usedShare_2 : decode cX6_usedShare 2 = .ok (.iload_n 1, 1) := by decide +kernel
theorem dX6_usedShare_3 : decode cX6_usedShare 3 = .ok (.invokevirtual 87, 3) := by decide +kernel
theorem dX6_usedShare_6 : decode cX6_usedShare 6 = .ok (.ifCond .eq 7, 3) := by decide +kernel
theorem dX6_usedShare_9 : decode cX6_usedShare 9 = .ok (.iconst 0, 1) := by decide +kernel
theorem dX6_usedShare_10 : decode cX6_usedShare 10 = .ok (.goto 4, 3) := by decide +kernel
theorem dX6_usedShare_13 : decode cX6_usedShare 13 = .ok (.iconst 1, 1) := by decide +kernel
theorem dX6_usedShare_14 : decode cX6_usedShare 14 = .ok (.putfield 22, 3) := by decide +kernel
theorem dX6_usedShare_17 : decode cX6_usedShare 17 = .ok (.aload_n 0, 1) := by decide +kernel
theorem dX6_usedShare_18 : decode cX6_usedShare 18 = .ok (.getfield 22, 3) := by decide +kernel
theorem dX6_usedShare_21 : decode cX6_usedShare 21 = .ok (.ifCond .le 7, 3) := by decide +kernel
theorem dX6_usedShare_24 : decode cX6_usedShare 24 = .ok (.dconst 0, 1) := by decide +kernel
theorem dX6_usedShare_25 : decode cX6_usedShare 25 = .ok (.goto 8, 3) := by decide +kernel
theorem dX6_usedShare_28 : decode cX6_usedShare 28 = .ok (.aload_n 0, 1) := by decide +kernel
theorem dX6_usedShare_29 : decode cX6_usedShare 29 = .ok (.iload_n 1, 1) := by decide +kernel
theorem dX6_usedShare_30 : decode cX6_usedShare 30 = .ok (.invokevirtual 200, 3) := by decide +kernel
theorem dX6_usedShare_33 : decode cX6_usedShare 33 = .ok (.dreturn, 1) := by decide +kernel
theorem dX6_mix_0 : decode cX6_mix 0 = .ok (.aload_n 0, 1) := by decide +kernel
theorem dX6_mix_1 : decode cX6_mix 1 = .ok (.ldc2_w 204, 3) := by decide +kernel
theorem dX6_mix_4 : decode cX6_mix 4 = .ok (.aload_n 0, 1) := by decide +kernel
theorem dX6_mix_5 : decode cX6_mix 5 = .ok (.getfield 206, 3) := by decide +kernel
theorem dX6_mix_8 : decode cX6_mix 8 = .ok (.lmul, 1) := by decide +kernel
theorem dX6_mix_9 : decode cX6_mix 9 = .ok (.lload_n 1, 1) := by decide +kernel
theorem dX6_mix_10 : decode cX6_mix 10 = .ok (.ladd, 1) := by decide +kernel
theorem dX6_mix_11 : decode cX6_mix 11 = .ok (.putfield 206, 3) := by decide +kernel
theorem dX6_mix_14 : decode cX6_mix 14 = .ok (.return_, 1) := by decide +kernel
set_option maxRecDepth 20000 in
theorem ggX6_mixMandate_X6_mandateNow : GoodIn wsX6_mixMandate wsX6_mandateNow := goodIn_r _ [5, 6, 7, 8, 4, 9, 10, 11, 12, 13, 14, 15, 16, 17, 18, 19, 20, 21, 22, 23, 24, 25, 26, 27, 28, 29, 30, 31, 32, 33, 34, 35, 36, 37, 84, 85, 86, 87, 88, 89, 90, 91, 92, 93, 94] (by decide +kernel) (by decide +kernel)
set_option maxRecDepth 20000 in
theorem gX6_mixMandate_X6_mandateNow : GoodIn wsX6_mixMandate (wsV RX6 166 RX6 yX6_mandateNow wsX6_mandateNow) := goodIn_app (goodIn_of _ (by decide +kernel)) ggX6_mixMandate_X6_mandateNow
set_option maxRecDepth 20000 in
theorem ggX6_mixMandate_X6_mix : GoodIn wsX6_mixMandate wsX6_mix := goodIn_r _ [41, 42, 43, 84, 85, 86, 87, 88, 89, 90, 91, 92, 93, 94] (by decide +kernel) (by decide +kernel)
set_option maxRecDepth 20000 in
theorem gX6_mixMandate_X6_mix : GoodIn wsX6_mixMandate (wsV RX6 210 RX6 yX6_mix wsX6_mix) := goodIn_app (goodIn_of _ (by decide +kernel)) ggX6_mixMandate_X6_mix
set_option maxRecDepth 20000 in
theorem ggX6_mixMandate_X6_reason : GoodIn wsX6_mixMandate wsX6_reason := goodIn_r _ [47, 19, 20, 21, 4, 22, 10, 11, 12, 13, 14, 48, 49, 50, 51, 52, 53, 54, 55, 84, 85, 86, 87, 88, 89, 90, 91, 92, 93, 94] (by decide +kernel) (by decide +kernel)
set_option maxRecDepth 20000 in
theorem gX6_mixMandate_X6_reason : GoodIn wsX6_mixMandate (wsV RX6 105 RX6 yX6_reason wsX6_reason) := goodIn_app (goodIn_of _ (by decide +kernel)) ggX6_mixMandate_X6_reason
set_option maxRecDepth 20000 in
theorem ggX6_mixMandate_X6_roomOf : GoodIn wsX6_mixMandate wsX6_roomOf := goodIn_r _ [59, 48, 49, 50, 4, 51, 52, 53, 54, 55, 10, 11, 12, 13, 14, 19, 20, 21, 22, 84, 85, 86, 87, 88, 89, 90, 91, 92, 93, 94] (by decide +kernel) (by decide +kernel)
set_option maxRecDepth 20000 in
theorem gX6_mixMandate_X6_roomOf : GoodIn wsX6_mixMandate (wsV RX6 190 RX6 yX6_roomOf wsX6_roomOf) := goodIn_app (goodIn_of _ (by decide +kernel)) ggX6_mixMandate_X6_roomOf
set_option maxRecDepth 20000 in
theorem ggX6_mixMandate_X6_lapsing : GoodIn wsX6_mixMandate wsX6_lapsing := goodIn_r _ [63, 19, 20, 21, 4, 22, 10, 11, 12, 13, 14, 15, 16, 17, 18, 23, 24, 25, 26, 84, 85, 86, 87, 88, 89, 90, 91, 92, 93, 94] (by decide +kernel) (by decide +kernel)
set_option maxRecDepth 20000 in
theorem gX6_mixMandate_X6_lapsing : GoodIn wsX6_mixMandate (wsV RX6 194 RX6 yX6_lapsing wsX6_lapsing) := goodIn_app (goodIn_of _ (by decide +kernel)) ggX6_mixMandate_X6_lapsing
set_option maxRecDepth 20000 in
theorem ggX6_mixMandate_X6_narrowestOf : GoodIn wsX6_mixMandate wsX6_narrowestOf := goodIn_r _ [51, 52, 53, 54, 4, 55, 10, 11, 12, 13, 14, 84, 85, 86, 87, 88, 89, 90, 91, 92, 93, 94] (by decide +kernel) (by decide +kernel)
set_option maxRecDepth 20000 in
theorem gX6_mixMandate_X6_narrowestOf : GoodIn wsX6_mixMandate (wsV RX6 102 RX6 yX6_narrowestOf wsX6_narrowestOf) := goodIn_app (goodIn_of _ (by decide +kernel)) ggX6_mixMandate_X6_narrowestOf
set_option maxRecDepth 20000 in
theorem ggX6_mixMandate_X6_daysLeft : GoodIn wsX6_mixMandate wsX6_daysLeft := goodIn_r _ [67, 14, 19, 20, 21, 4, 22, 10, 11, 12, 13, 34, 35, 36, 37, 23, 24, 25, 26, 84, 85, 86, 87, 88, 89, 90, 91, 92, 93, 94] (by decide +kernel) (by decide +kernel)
set_option maxRecDepth 20000 in
theorem gX6_mixMandate_X6_daysLeft : GoodIn wsX6_mixMandate (wsV RX6 197 RX6 yX6_daysLeft wsX6_daysLeft) := goodIn_app (goodIn_of _ (by decide +kernel)) ggX6_mixMandate_X6_daysLeft
set_option maxRecDepth 20000 in
theorem ggX6_mixMandate_X6_usedOf : GoodIn wsX6_mixMandate wsX6_usedOf := goodIn_r _ [71, 10, 11, 12, 4, 13, 14, 84, 85, 86, 87, 88, 89, 90, 91, 92, 93, 94] (by decide +kernel) (by decide +kernel)
set_option maxRecDepth 20000 in
theorem gX6_mixMandate_X6_usedOf : GoodIn wsX6_mixMandate (wsV RX6 200 RX6 yX6_usedOf wsX6_usedOf) := goodIn_app (goodIn_of _ (by decide +kernel)) ggX6_mixMandate_X6_usedOf
set_option maxRecDepth 20000 in
theorem ggX6_mixMandate_Jxe99ae_doubleToLongBits_ccdee : GoodIn wsX6_mixMandate wsJxe99ae_doubleToLongBits_ccdee := goodIn_r _ [75, 76, 77, 78, 79, 80, 81, 82, 74, 83] (by decide +kernel) (by decide +kernel)
set_option maxRecDepth 20000 in
theorem gX6_mixMandate_Jxe99ae_doubleToLongBits_ccdee : GoodIn wsX6_mixMandate (va_wsS RX6 214 yJxe99ae_doubleToLongBits_ccdee wsJxe99ae_doubleToLongBits_ccdee) := goodIn_app (goodIn_of _ (by decide +kernel)) ggX6_mixMandate_Jxe99ae_doubleToLongBits_ccdee
theorem dX6_mixMandate_0 : decode cX6_mixMandate 0 = .ok (.iconst 0, 1) := by decide +kernel
theorem dX6_mixMandate_1 : decode cX6_mixMandate 1 = .ok (.istore_n 2, 1) := by decide +kernel
theorem dX6_mixMandate_2 : decode cX6_mixMandate 2 = .ok (.iload_n 2, 1) := by decide +kernel
theorem dX6_mixMandate_3 : decode cX6_mixMandate 3 = .ok (.bipush 12, 2) := by decide +kernel
theorem dX6_mixMandate_5 : decode cX6_mixMandate 5 = .ok (.if_icmp .ge 20, 3) := by decide +kernel
theorem dX6_mixMandate_8 : decode cX6_mixMandate 8 = .ok (.aload_n 0, 1) := by decide +kernel
theorem dX6_mixMandate_9 : decode cX6_mixMandate 9 = .ok (.aload_n 0, 1) := by decide +kernel
theorem dX6_mixMandate_10 : decode cX6_mixMandate 10 = .ok (.iload_n 1, 1) := by decide +kernel
theorem dX6_mixMandate_11 : decode cX6_mixMandate 11 = .ok (.iload_n 2, 1) := by decide +kernel
theorem dX6_mixMandate_12 : decode cX6_mixMandate 12 = .ok (.invokevirtual 166, 3) := by decide +kernel
theorem dX6_mixMandate_15 : decode cX6_mixMandate 15 = .ok (.i2l, 1) := by decide +kernel
theorem dX6_mixMandate_16 : decode cX6_mixMandate 16 = .ok (.invokevirtual 210, 3) := by decide +kernel
theorem dX6_mixMandate_19 : decode cX6_mixMandate 19 = .ok (.iinc 2 1, 3) := by decide +kernel
theorem dX6_mixMandate_22 : decode cX6_mixMandate 22 = .ok (.goto (-20), 3) := by decide +kernel
theorem dX6_mixMandate_25 : decode cX6_mixMandate 25 = .ok (.aload_n 0, 1) := by decide +kernel
theorem dX6_mixMandate_26 : decode cX6_mixMandate 26 = .ok (.aload_n 0, 1) := by decide +kernel
theorem dX6_mixMandate_27 : decode cX6_mixMandate 27 = .ok (.iload_n 1, 1) := by decide +kernel
theorem dX6_mixMandate_28 : decode cX6_mixMandate 28 = .ok (.bipush 100, 2) := by decide +kernel
theorem dX6_mixMandate_30 : decode cX6_mixMandate 30 = .ok (.invokevirtual 105, 3) := by decide +kernel
theorem dX6_mixMandate_33 : decode cX6_mixMandate 33 = .ok (.i2l, 1) := by decide +kernel
theorem dX6_mixMandate_34 : decode cX6_mixMandate 34 = .ok (.invokevirtual 210, 3) := by decide +kernel
theorem dX6_mixMandate_37 : decode cX6_mixMandate 37 = .ok (.aload_n 0, 1) := by decide +kernel
theorem dX6_mixMandate_38 : decode cX6_mixMandate 38 = .ok (.aload_n 0, 1) := by decide +kernel
theorem dX6_mixMandate_39 : decode cX6_mixMandate 39 = .ok (.iload_n 1, 1) := by decide +kernel
theorem dX6_mixMandate_40 : decode cX6_mixMandate 40 = .ok (.iconst 0, 1) := by decide +kernel
theorem dX6_mixMandate_41 : decode cX6_mixMandate 41 = .ok (.invokevirtual 190, 3) := by decide +kernel
theorem dX6_mixMandate_44 : decode cX6_mixMandate 44 = .ok (.i2l, 1) := by decide +kernel
theorem dX6_mixMandate_45 : decode cX6_mixMandate 45 = .ok (.invokevirtual 210, 3) := by decide +kernel
theorem dX6_mixMandate_48 : decode cX6_mixMandate 48 = .ok (.aload_n 0, 1) := by decide +kernel
theorem dX6_mixMandate_49 : decode cX6_mixMandate 49 = .ok (.aload_n 0, 1) := by decide +kernel
theorem dX6_mixMandate_50 : decode cX6_mixMandate 50 = .ok (.iload_n 1, 1) := by decide +kernel
theorem dX6_mixMandate_51 : decode cX6_mixMandate 51 = .ok (.iconst 1, 1) := by decide +kernel
theorem dX6_mixMandate_52 : decode cX6_mixMandate 52 = .ok (.invokevirtual 190, 3) := by decide +kernel
theorem dX6_mixMandate_55 : decode cX6_mixMandate 55 = .ok (.i2l, 1) := by decide +kernel
theorem dX6_mixMandate_56 : decode cX6_mixMandate 56 = .ok (.invokevirtual 210, 3) := by decide +kernel
theorem dX6_mixMandate_59 : decode cX6_mixMandate 59 = .ok (.aload_n 0, 1) := by decide +kernel
theorem dX6_mixMandate_60 : decode cX6_mixMandate 60 = .ok (.aload_n 0, 1) := by decide +kernel
theorem dX6_mixMandate_61 : decode cX6_mixMandate 61 = .ok (.iload_n 1, 1) := by decide +kernel
theorem dX6_mixMandate_62 : decode cX6_mixMandate 62 = .ok (.invokevirtual 194, 3) := by decide +kernel
theorem dX6_mixMandate_65 : decode cX6_mixMandate 65 = .ok (.i2l, 1) := by decide +kernel
theorem dX6_mixMandate_66 : decode cX6_mixMandate 66 = .ok (.invokevirtual 210, 3) := by decide +kernel
theorem dX6_mixMandate_69 : decode cX6_mixMandate 69 = .ok (.aload_n 0, 1) := by decide +kernel
theorem dX6_mixMandate_70 : decode cX6_mixMandate 70 = .ok (.aload_n 0, 1) := by decide +kernel
theorem dX6_mixMandate_71 : decode cX6_mixMandate 71 = .ok (.iload_n 1, 1) := by decide +kernel
theorem dX6_mixMandate_72 : decode cX6_mixMandate 72 = .ok (.invokevirtual 102, 3) := by decide +kernel
theorem dX6_mixMandate_75 : decode cX6_mixMandate 75 = .ok (.i2l, 1) := by decide +kernel
theorem dX6_mixMandate_76 : decode cX6_mixMandate 76 = .ok (.invokevirtual 210, 3) := by decide +kernel
theorem dX6_mixMandate_79 : decode cX6_mixMandate 79 = .ok (.aload_n 0, 1) := by decide +kernel
theorem dX6_mixMandate_80 : decode cX6_mixMandate 80 = .ok (.aload_n 0, 1) := by decide +kernel
theorem dX6_mixMandate_81 : decode cX6_mixMandate 81 = .ok (.iload_n 1, 1) := by decide +kernel
theorem dX6_mixMandate_82 : decode cX6_mixMandate 82 = .ok (.invokevirtual 197, 3) := by decide +kernel
theorem dX6_mixMandate_85 : decode cX6_mixMandate 85 = .ok (.i2l, 1) := by decide +kernel
theorem dX6_mixMandate_86 : decode cX6_mixMandate 86 = .ok (.invokevirtual 210, 3) := by decide +kernel
theorem dX6_mixMandate_89 : decode cX6_mixMandate 89 = .ok (.aload_n 0, 1) := by decide +kernel
theorem dX6_mixMandate_90 : decode cX6_mixMandate 90 = .ok (.aload_n 0, 1) := by decide +kernel
theorem dX6_mixMandate_91 : decode cX6_mixMandate 91 = .ok (.iload_n 1, 1) := by decide +kernel
theorem dX6_mixMandate_92 : decode cX6_mixMandate 92 = .ok (.invokevirtual 200, 3) := by decide +kernel
theorem dX6_mixMandate_95 : decode cX6_mixMandate 95 = .ok (.invokestatic 214, 3) := by decide +kernel
theorem dX6_mixMandate_98 : decode cX6_mixMandate 98 = .ok (.invokevirtual 210, 3) := by decide +kernel
theorem dX6_mixMandate_101 : decode cX6_mixMandate 101 = .ok (.return_, 1) := by decide +kernel
set_option maxRecDepth 20000 in
theorem ggX6_digest_X6_counted : GoodIn wsX6_digest wsX6_counted := goodIn_r _ [11, 4, 12, 13, 14, 15, 10, 16, 17, 18, 19, 20, 132, 133, 134, 135, 136, 137, 138, 139, 140, 141, 142] (by decide +kernel) (by decide +kernel)
set_option maxRecDepth 20000 in
theorem gX6_digest_X6_counted : GoodIn wsX6_digest (wsV RX6 187 RX6 yX6_counted wsX6_counted) := goodIn_app (goodIn_of _ (by decide +kernel)) ggX6_digest_X6_counted
set_option maxRecDepth 20000 in
theorem ggX6_digest_X6_mix : GoodIn wsX6_digest wsX6_mix := goodIn_r _ [24, 25, 3, 132, 133, 134, 135, 136, 137, 138, 139, 140, 141, 142] (by decide +kernel) (by decide +kernel)
set_option maxRecDepth 20000 in
theorem gX6_digest_X6_mix : GoodIn wsX6_digest (wsV RX6 210 RX6 yX6_mix wsX6_mix) := goodIn_app (goodIn_of _ (by decide +kernel)) ggX6_digest_X6_mix
set_option maxRecDepth 20000 in
theorem ggX6_digest_X6_mixMandate : GoodIn wsX6_digest wsX6_mixMandate := goodIn_r _ [29, 30, 31, 32, 10, 33, 34, 35, 36, 37, 17, 18, 19, 20, 4, 38, 39, 40, 41, 42, 43, 44, 45, 46, 47, 48, 49, 50, 51, 52, 53, 54, 55, 56, 57, 58, 59, 60, 21, 22, 23, 24, 25, 3, 61, 62, 63, 64, 65, 66, 67, 68, 69, 70, 71, 72, 73, 74, 75, 76, 77, 78, 79, 80, 81, 82, 83, 84, 85, 86, 87, 88, 89, 90, 91, 92, 93, 94, 95, 96, 97, 98, 99, 100, 132, 133, 134, 135, 136, 137, 138, 139, 140, 141, 142] (by decide +kernel) (by decide +kernel)
set_option maxRecDepth 20000 in
theorem gX6_digest_X6_mixMandate : GoodIn wsX6_digest (wsV RX6 222 RX6 yX6_mixMandate wsX6_mixMandate) := goodIn_app (goodIn_of _ (by decide +kernel)) ggX6_digest_X6_mixMandate
set_option maxRecDepth 20000 in
theorem ggX6_digest_X6_requestNow : GoodIn wsX6_digest wsX6_requestNow := goodIn_r _ [104, 57, 58, 59, 10, 60, 4, 105, 106, 107, 108, 109, 110, 111, 112, 113, 114, 115, 17, 18, 19, 20, 116, 117, 118, 119, 132, 133, 134, 135, 136, 137, 138, 139, 140, 141, 142] (by decide +kernel) (by decide +kernel)
set_option maxRecDepth 20000 in
theorem gX6_digest_X6_requestNow : GoodIn wsX6_digest (wsV RX6 172 RX6 yX6_requestNow wsX6_requestNow) := goodIn_app (goodIn_of _ (by decide +kernel)) ggX6_digest_X6_requestNow
set_option maxRecDepth 20000 in
theorem ggX6_digest_X6_personNow : GoodIn wsX6_digest wsX6_personNow := goodIn_r _ [123, 4, 124, 125, 126, 10, 127, 17, 18, 19, 20, 128, 129, 130, 131, 109, 110, 111, 112, 57, 58, 59, 60, 113, 114, 115, 116, 117, 118, 119, 132, 133, 134, 135, 136, 137, 138, 139, 140, 141, 142] (by decide +kernel) (by decide +kernel)
set_option maxRecDepth 20000 in
theorem gX6_digest_X6_personNow : GoodIn wsX6_digest (wsV RX6 181 RX6 yX6_personNow wsX6_personNow) := goodIn_app (goodIn_of _ (by decide +kernel)) ggX6_digest_X6_personNow
theorem dX6_digest_0 : decode cX6_digest 0 = .ok (.aload_n 0, 1) := by decide +kernel
theorem dX6_digest_1 : decode cX6_digest 1 = .ok (.iconst 0, 1) := by decide +kernel
theorem dX6_digest_2 : decode cX6_digest 2 = .ok (.putfield 22, 3) := by decide +kernel
theorem dX6_digest_5 : decode cX6_digest 5 = .ok (.aload_n 0, 1) := by decide +kernel
theorem dX6_digest_6 : decode cX6_digest 6 = .ok (.ldc2_w 220, 3) := by decide +kernel
theorem dX6_digest_9 : decode cX6_digest 9 = .ok (.putfield 206, 3) := by decide +kernel
theorem dX6_digest_12 : decode cX6_digest 12 = .ok (.iconst 0, 1) := by decide +kernel
theorem dX6_digest_13 : decode cX6_digest 13 = .ok (.istore_n 1, 1) := by decide +kernel
theorem dX6_digest_14 : decode cX6_digest 14 = .ok (.iload_n 1, 1) := by decide +kernel
theorem dX6_digest_15 : decode cX6_digest 15 = .ok (.bipush 12, 2) := by decide +kernel
theorem dX6_digest_17 : decode cX6_digest 17 = .ok (.if_icmp .ge 19, 3) := by decide +kernel
theorem dX6_digest_20 : decode cX6_digest 20 = .ok (.aload_n 0, 1) := by decide +kernel
theorem dX6_digest_21 : decode cX6_digest 21 = .ok (.aload_n 0, 1) := by decide +kernel
theorem dX6_digest_22 : decode cX6_digest 22 = .ok (.iload_n 1, 1) := by decide +kernel
theorem dX6_digest_23 : decode cX6_digest 23 = .ok (.invokevirtual 187, 3) := by decide +kernel
theorem dX6_digest_26 : decode cX6_digest 26 = .ok (.i2l, 1) := by decide +kernel
theorem dX6_digest_27 : decode cX6_digest 27 = .ok (.invokevirtual 210, 3) := by decide +kernel
theorem dX6_digest_30 : decode cX6_digest 30 = .ok (.iinc 1 1, 3) := by decide +kernel
theorem dX6_digest_33 : decode cX6_digest 33 = .ok (.goto (-19), 3) := by decide +kernel
theorem dX6_digest_36 : decode cX6_digest 36 = .ok (.aload_n 0, 1) := by decide +kernel
theorem dX6_digest_37 : decode cX6_digest 37 = .ok (.aload_n 0, 1) := by decide +kernel
theorem dX6_digest_38 : decode cX6_digest 38 = .ok (.getfield 7, 3) := by decide +kernel
theorem dX6_digest_41 : decode cX6_digest 41 = .ok (.iconst 0, 1) := by decide +kernel
theorem dX6_digest_42 : decode cX6_digest 42 = .ok (.iaload, 1) := by decide +kernel
theorem dX6_digest_43 : decode cX6_digest 43 = .ok (.i2l, 1) := by decide +kernel
theorem dX6_digest_44 : decode cX6_digest 44 = .ok (.invokevirtual 210, 3) := by decide +kernel
theorem dX6_digest_47 : decode cX6_digest 47 = .ok (.aload_n 0, 1) := by decide +kernel
theorem dX6_digest_48 : decode cX6_digest 48 = .ok (.aload_n 0, 1) := by decide +kernel
theorem dX6_digest_49 : decode cX6_digest 49 = .ok (.getfield 7, 3) := by decide +kernel
theorem dX6_digest_52 : decode cX6_digest 52 = .ok (.iconst 1, 1) := by decide +kernel
theorem dX6_digest_53 : decode cX6_digest 53 = .ok (.iaload, 1) := by decide +kernel
theorem dX6_digest_54 : decode cX6_digest 54 = .ok (.i2l, 1) := by decide +kernel
theorem dX6_digest_55 : decode cX6_digest 55 = .ok (.invokevirtual 210, 3) := by decide +kernel
theorem dX6_digest_58 : decode cX6_digest 58 = .ok (.iconst 0, 1) := by decide +kernel
theorem dX6_digest_59 : decode cX6_digest 59 = .ok (.istore_n 1, 1) := by decide +kernel
theorem dX6_digest_60 : decode cX6_digest 60 = .ok (.iload_n 1, 1) := by decide +kernel
theorem dX6_digest_61 : decode cX6_digest 61 = .ok (.aload_n 0, 1) := by decide +kernel
theorem dX6_digest_62 : decode cX6_digest 62 = .ok (.getfield 7, 3) := by decide +kernel
theorem dX6_digest_65 : decode cX6_digest 65 = .ok (.iconst 3, 1) := by decide +kernel
theorem dX6_digest_66 : decode cX6_digest 66 = .ok (.iaload, 1) := by decide +kernel
theorem dX6_digest_67 : decode cX6_digest 67 = .ok (.if_icmp .ge 14, 3) := by decide +kernel
theorem dX6_digest_70 : decode cX6_digest 70 = .ok (.aload_n 0, 1) := by decide +kernel
theorem dX6_digest_71 : decode cX6_digest 71 = .ok (.iload_n 1, 1) := by decide +kernel
theorem dX6_digest_72 : decode cX6_digest 72 = .ok (.invokevirtual 222, 3) := by decide +kernel
theorem dX6_digest_75 : decode cX6_digest 75 = .ok (.iinc 1 1, 3) := by decide +kernel
theorem dX6_digest_78 : decode cX6_digest 78 = .ok (.goto (-18), 3) := by decide +kernel
theorem dX6_digest_81 : decode cX6_digest 81 = .ok (.iconst 0, 1) := by decide +kernel
theorem dX6_digest_82 : decode cX6_digest 82 = .ok (.istore_n 1, 1) := by decide +kernel
theorem dX6_digest_83 : decode cX6_digest 83 = .ok (.iload_n 1, 1) := by decide +kernel
theorem dX6_digest_84 : decode cX6_digest 84 = .ok (.bipush 7, 2) := by decide +kernel
theorem dX6_digest_86 : decode cX6_digest 86 = .ok (.aload_n 0, 1) := by decide +kernel
theorem dX6_digest_87 : decode cX6_digest 87 = .ok (.getfield 7, 3) := by decide +kernel
theorem dX6_digest_90 : decode cX6_digest 90 = .ok (.iconst 4, 1) := by decide +kernel
theorem dX6_digest_91 : decode cX6_digest 91 = .ok (.iaload, 1) := by decide +kernel
theorem dX6_digest_92 : decode cX6_digest 92 = .ok (.imul, 1) := by decide +kernel
theorem dX6_digest_93 : decode cX6_digest 93 = .ok (.if_icmp .ge 26, 3) := by decide +kernel
theorem dX6_digest_96 : decode cX6_digest 96 = .ok (.aload_n 0, 1) := by decide +kernel
theorem dX6_digest_97 : decode cX6_digest 97 = .ok (.aload_n 0, 1) := by decide +kernel
theorem dX6_digest_98 : decode cX6_digest 98 = .ok (.iload_n 1, 1) := by decide +kernel
theorem dX6_digest_99 : decode cX6_digest 99 = .ok (.bipush 7, 2) := by decide +kernel
theorem dX6_digest_101 : decode cX6_digest 101 = .ok (.idiv, 1) := by decide +kernel
theorem dX6_digest_102 : decode cX6_digest 102 = .ok (.iload_n 1, 1) := by decide +kernel
theorem dX6_digest_103 : decode cX6_digest 103 = .ok (.bipush 7, 2) := by decide +kernel
theorem dX6_digest_105 : decode cX6_digest 105 = .ok (.irem, 1) := by decide +kernel
theorem dX6_digest_106 : decode cX6_digest 106 = .ok (.invokevirtual 172, 3) := by decide +kernel
theorem dX6_digest_109 : decode cX6_digest 109 = .ok (.i2l, 1) := by decide +kernel
theorem dX6_digest_110 : decode cX6_digest 110 = .ok (.invokevirtual 210, 3) := by decide +kernel
theorem dX6_digest_113 : decode cX6_digest 113 = .ok (.iinc 1 1, 3) := by decide +kernel
theorem dX6_digest_116 : decode cX6_digest 116 = .ok (.goto (-33), 3) := by decide +kernel
theorem dX6_digest_119 : decode cX6_digest 119 = .ok (.iconst 0, 1) := by decide +kernel
theorem dX6_digest_120 : decode cX6_digest 120 = .ok (.istore_n 1, 1) := by decide +kernel
theorem dX6_digest_121 : decode cX6_digest 121 = .ok (.iload_n 1, 1) := by decide +kernel
theorem dX6_digest_122 : decode cX6_digest 122 = .ok (.bipush 32, 2) := by decide +kernel
theorem dX6_digest_124 : decode cX6_digest 124 = .ok (.if_icmp .ge 24, 3) := by decide +kernel
theorem dX6_digest_127 : decode cX6_digest 127 = .ok (.aload_n 0, 1) := by decide +kernel
theorem dX6_digest_128 : decode cX6_digest 128 = .ok (.aload_n 0, 1) := by decide +kernel
theorem dX6_digest_129 : decode cX6_digest 129 = .ok (.iload_n 1, 1) := by decide +kernel
theorem dX6_digest_130 : decode cX6_digest 130 = .ok (.iconst 4, 1) := by decide +kernel
theorem dX6_digest_131 : decode cX6_digest 131 = .ok (.idiv, 1) := by decide +kernel
theorem dX6_digest_132 : decode cX6_digest 132 = .ok (.iload_n 1, 1) := by decide +kernel
theorem dX6_digest_133 : decode cX6_digest 133 = .ok (.iconst 4, 1) := by decide +kernel
theorem dX6_digest_134 : decode cX6_digest 134 = .ok (.irem, 1) := by decide +kernel
theorem dX6_digest_135 : decode cX6_digest 135 = .ok (.invokevirtual 181, 3) := by decide +kernel
theorem dX6_digest_138 : decode cX6_digest 138 = .ok (.i2l, 1) := by decide +kernel
theorem dX6_digest_139 : decode cX6_digest 139 = .ok (.invokevirtual 210, 3) := by decide +kernel
theorem dX6_digest_142 : decode cX6_digest 142 = .ok (.iinc 1 1, 3) := by decide +kernel
theorem dX6_digest_145 : decode cX6_digest 145 = .ok (.goto (-24), 3) := by decide +kernel
theorem dX6_digest_148 : decode cX6_digest 148 = .ok (.aload_n 0, 1) := by decide +kernel
theorem dX6_digest_149 : decode cX6_digest 149 = .ok (.aload_n 0, 1) := by decide +kernel
theorem dX6_digest_150 : decode cX6_digest 150 = .ok (.getfield 139, 3) := by decide +kernel
theorem dX6_digest_153 : decode cX6_digest 153 = .ok (.i2l, 1) := by decide +kernel
theorem dX6_digest_154 : decode cX6_digest 154 = .ok (.invokevirtual 210, 3) := by decide +kernel
theorem dX6_digest_157 : decode cX6_digest 157 = .ok (.iconst 0, 1) := by decide +kernel
theorem dX6_digest_158 : decode cX6_digest 158 = .ok (.istore_n 1, 1) := by decide +kernel
theorem dX6_digest_159 : decode cX6_digest 159 = .ok (.iload_n 1, 1) := by decide +kernel
theorem dX6_digest_160 : decode cX6_digest 160 = .ok (.aload_n 0, 1) := by decide +kernel
theorem dX6_digest_161 : decode cX6_digest 161 = .ok (.getfield 139, 3) := by decide +kernel
theorem dX6_digest_164 : decode cX6_digest 164 = .ok (.if_icmp .ge 20, 3) := by decide +kernel
theorem dX6_digest_167 : decode cX6_digest 167 = .ok (.aload_n 0, 1) := by decide +kernel
theorem dX6_digest_168 : decode cX6_digest 168 = .ok (.aload_n 0, 1) := by decide +kernel
theorem dX6_digest_169 : decode cX6_digest 169 = .ok (.getfield 16, 3) := by decide +kernel
theorem dX6_digest_172 : decode cX6_digest 172 = .ok (.iload_n 1, 1) := by decide +kernel
theorem dX6_digest_173 : decode cX6_digest 173 = .ok (.iaload, 1) := by decide +kernel
theorem dX6_digest_174 : decode cX6_digest 174 = .ok (.i2l, 1) := by decide +kernel
theorem dX6_digest_175 : decode cX6_digest 175 = .ok (.invokevirtual 210, 3) := by decide +kernel
theorem dX6_digest_178 : decode cX6_digest 178 = .ok (.iinc 1 1, 3) := by decide +kernel
theorem dX6_digest_181 : decode cX6_digest 181 = .ok (.goto (-22), 3) := by decide +kernel
theorem dX6_digest_184 : decode cX6_digest 184 = .ok (.aload_n 0, 1) := by decide +kernel
theorem dX6_digest_185 : decode cX6_digest 185 = .ok (.getfield 206, 3) := by decide +kernel
theorem dX6_digest_188 : decode cX6_digest 188 = .ok (.lreturn, 1) := by decide +kernel
