set_option maxRecDepth 20000 in
theorem ggX0_init_X2_init : GoodIn wsX0_init wsX2_init := goodIn_r _ [17, 18, 2, 3, 19, 9, 10, 20, 21, 22, 23, 24, 25, 26, 27, 28, 29, 30, 12, 31, 46, 47, 48, 49, 33] (by decide +kernel) (by decide +kernel)
set_option maxRecDepth 20000 in
theorem gX0_init_X2_init_n11 : GoodIn wsX0_init (wsX2_init) := ggX0_init_X2_init
set_option maxRecDepth 20000 in
theorem ggX0_init_X3_init : GoodIn wsX0_init wsX3_init := goodIn_r _ [23, 24, 2, 3, 25, 26, 27, 28, 29, 30, 12, 31, 46, 47, 48, 49] (by decide +kernel) (by decide +kernel)
set_option maxRecDepth 20000 in
theorem gX0_init_X3_init : GoodIn wsX0_init (wsX3_init) := ggX0_init_X3_init
theorem dX0_init_0 : decode cX0_init 0 = .ok (.aload_n 0, 1) := by decide +kernel
theorem dX0_init_1 : decode cX0_init 1 = .ok (.invokespecial 3, 3) := by decide +kernel
theorem dX0_init_4 : decode cX0_init 4 = .ok (.aload_n 0, 1) := by decide +kernel
theorem dX0_init_5 : decode cX0_init 5 = .ok (.new 9, 3) := by decide +kernel
theorem dX0_init_8 : decode cX0_init 8 = .ok (.dup, 1) := by decide +kernel
theorem dX0_init_9 : decode cX0_init 9 = .ok (.invokespecial 11, 3) := by decide +kernel
theorem dX0_init_12 : decode cX0_init 12 = .ok (.putfield 12, 3) := by decide +kernel
theorem dX0_init_15 : decode cX0_init 15 = .ok (.aload_n 0, 1) := by decide +kernel
theorem dX0_init_16 : decode cX0_init 16 = .ok (.new 18, 3) := by decide +kernel
theorem dX0_init_19 : decode cX0_init 19 = .ok (.dup, 1) := by decide +kernel
theorem dX0_init_20 : decode cX0_init 20 = .ok (.bipush 6, 2) := by decide +kernel
theorem dX0_init_22 : decode cX0_init 22 = .ok (.bipush 6, 2) := by decide +kernel
theorem dX0_init_24 : decode cX0_init 24 = .ok (.invokespecial 20, 3) := by decide +kernel
theorem dX0_init_27 : decode cX0_init 27 = .ok (.putfield 23, 3) := by decide +kernel
theorem dX0_init_30 : decode cX0_init 30 = .ok (.aload_n 0, 1) := by decide +kernel
theorem dX0_init_31 : decode cX0_init 31 = .ok (.bipush 8, 2) := by decide +kernel
theorem dX0_init_33 : decode cX0_init 33 = .ok (.newarray .int, 2) := by decide +kernel
theorem dX0_init_35 : decode cX0_init 35 = .ok (.putfield 27, 3) := by decide +kernel
theorem dX0_init_38 : decode cX0_init 38 = .ok (.aload_n 0, 1) := by decide +kernel
theorem dX0_init_39 : decode cX0_init 39 = .ok (.iconst 3, 1) := by decide +kernel
theorem dX0_init_40 : decode cX0_init 40 = .ok (.putfield 31, 3) := by decide +kernel
theorem dX0_init_43 : decode cX0_init 43 = .ok (.aload_n 0, 1) := by decide +kernel
theorem dX0_init_44 : decode cX0_init 44 = .ok (.iconst 4, 1) := by decide +kernel
theorem dX0_init_45 : decode cX0_init 45 = .ok (.putfield 35, 3) := by decide +kernel
theorem dX0_init_48 : decode cX0_init 48 = .ok (.return_, 1) := by decide +kernel
set_option maxRecDepth 20000 in
theorem ggX0_copyFrom_X3_copyFrom : GoodIn wsX0_copyFrom wsX3_copyFrom := goodIn_r _ [17, 18, 19, 33, 34, 35, 36] (by decide +kernel) (by decide +kernel)
set_option maxRecDepth 20000 in
theorem gX0_copyFrom_X3_copyFrom : GoodIn wsX0_copyFrom (wsV RX0 41 RX3 yX3_copyFrom wsX3_copyFrom) := goodIn_app (goodIn_of _ (by decide +kernel)) ggX0_copyFrom_X3_copyFrom
theorem dX0_copyFrom_0 : decode cX0_copyFrom 0 = .ok (.aload_n 1, 1) := by decide +kernel
theorem dX0_copyFrom_1 : decode cX0_copyFrom 1 = .ok (.ifnonnull 4, 3) := by decide +kernel
theorem dX0_copyFrom_4 : decode cX0_copyFrom 4 = .ok (.return_, 1) := by decide +kernel
theorem dX0_copyFrom_5 : decode cX0_copyFrom 5 = .ok (.aload_n 0, 1) := by decide +kernel
theorem dX0_copyFrom_6 : decode cX0_copyFrom 6 = .ok (.getfield 12, 3) := by decide +kernel
theorem dX0_copyFrom_9 : decode cX0_copyFrom 9 = .ok (.getfield 38, 3) := by decide +kernel
theorem dX0_copyFrom_12 : decode cX0_copyFrom 12 = .ok (.aload_n 1, 1) := by decide +kernel
theorem dX0_copyFrom_13 : decode cX0_copyFrom 13 = .ok (.getfield 12, 3) := by decide +kernel
theorem dX0_copyFrom_16 : decode cX0_copyFrom 16 = .ok (.getfield 38, 3) := by decide +kernel
theorem dX0_copyFrom_19 : decode cX0_copyFrom 19 = .ok (.invokevirtual 41, 3) := by decide +kernel
theorem dX0_copyFrom_22 : decode cX0_copyFrom 22 = .ok (.aload_n 0, 1) := by decide +kernel
theorem dX0_copyFrom_23 : decode cX0_copyFrom 23 = .ok (.getfield 23, 3) := by decide +kernel
theorem dX0_copyFrom_26 : decode cX0_copyFrom 26 = .ok (.aload_n 1, 1) := by decide +kernel
theorem dX0_copyFrom_27 : decode cX0_copyFrom 27 = .ok (.getfield 23, 3) := by decide +kernel
theorem dX0_copyFrom_30 : decode cX0_copyFrom 30 = .ok (.invokevirtual 41, 3) := by decide +kernel
theorem dX0_copyFrom_33 : decode cX0_copyFrom 33 = .ok (.iconst 0, 1) := by decide +kernel
theorem dX0_copyFrom_34 : decode cX0_copyFrom 34 = .ok (.istore_n 2, 1) := by decide +kernel
theorem dX0_copyFrom_35 : decode cX0_copyFrom 35 = .ok (.iload_n 2, 1) := by decide +kernel
theorem dX0_copyFrom_36 : decode cX0_copyFrom 36 = .ok (.aload_n 0, 1) := by decide +kernel
theorem dX0_copyFrom_37 : decode cX0_copyFrom 37 = .ok (.getfield 27, 3) := by decide +kernel
theorem dX0_copyFrom_40 : decode cX0_copyFrom 40 = .ok (.arraylength, 1) := by decide +kernel
theorem dX0_copyFrom_41 : decode cX0_copyFrom 41 = .ok (.if_icmp .ge 30, 3) := by decide +kernel
theorem dX0_copyFrom_44 : decode cX0_copyFrom 44 = .ok (.iload_n 2, 1) := by decide +kernel
theorem dX0_copyFrom_45 : decode cX0_copyFrom 45 = .ok (.aload_n 1, 1) := by decide +kernel
theorem dX0_copyFrom_46 : decode cX0_copyFrom 46 = .ok (.getfield 27, 3) := by decide +kernel
theorem dX0_copyFrom_49 : decode cX0_copyFrom 49 = .ok (.arraylength, 1) := by decide +kernel
theorem dX0_copyFrom_50 : decode cX0_copyFrom 50 = .ok (.if_icmp .ge 21, 3) := by decide +kernel
theorem dX0_copyFrom_53 : decode cX0_copyFrom 53 = .ok (.aload_n 0, 1) := by decide +kernel
theorem dX0_copyFrom_54 : decode cX0_copyFrom 54 = .ok (.getfield 27, 3) := by decide +kernel
theorem dX0_copyFrom_57 : decode cX0_copyFrom 57 = .ok (.iload_n 2, 1) := by decide +kernel
theorem dX0_copyFrom_58 : decode cX0_copyFrom 58 = .ok (.aload_n 1, 1) := by decide +kernel
theorem dX0_copyFrom_59 : decode cX0_copyFrom 59 = .ok (.getfield 27, 3) := by decide +kernel
theorem dX0_copyFrom_62 : decode cX0_copyFrom 62 = .ok (.iload_n 2, 1) := by decide +kernel
theorem dX0_copyFrom_63 : decode cX0_copyFrom 63 = .ok (.iaload, 1) := by decide +kernel
theorem dX0_copyFrom_64 : decode cX0_copyFrom 64 = .ok (.iastore, 1) := by decide +kernel
theorem dX0_copyFrom_65 : decode cX0_copyFrom 65 = .ok (.iinc 2 1, 3) := by decide +kernel
theorem dX0_copyFrom_68 : decode cX0_copyFrom 68 = .ok (.goto (-33), 3) := by decide +kernel
theorem dX0_copyFrom_71 : decode cX0_copyFrom 71 = .ok (.aload_n 0, 1) := by decide +kernel
theorem dX0_copyFrom_72 : decode cX0_copyFrom 72 = .ok (.aload_n 1, 1) := by decide +kernel
theorem dX0_copyFrom_73 : decode cX0_copyFrom 73 = .ok (.getfield 45, 3) := by decide +kernel
theorem dX0_copyFrom_76 : decode cX0_copyFrom 76 = .ok (.putfield 45, 3) := by decide +kernel
theorem dX0_copyFrom_79 : decode cX0_copyFrom 79 = .ok (.aload_n 0, 1) := by decide +kernel
theorem dX0_copyFrom_80 : decode cX0_copyFrom 80 = .ok (.aload_n 1, 1) := by decide +kernel
theorem dX0_copyFrom_81 : decode cX0_copyFrom 81 = .ok (.getfield 31, 3) := by decide +kernel
theorem dX0_copyFrom_84 : decode cX0_copyFrom 84 = .ok (.putfield 31, 3) := by decide +kernel
theorem dX0_copyFrom_87 : decode cX0_copyFrom 87 = .ok (.aload_n 0, 1) := by decide +kernel
theorem dX0_copyFrom_88 : decode cX0_copyFrom 88 = .ok (.aload_n 1, 1) := by decide +kernel
theorem dX0_copyFrom_89 : decode cX0_copyFrom 89 = .ok (.getfield 35, 3) := by decide +kernel
theorem dX0_copyFrom_92 : decode cX0_copyFrom 92 = .ok (.putfield 35, 3) := by decide +kernel
theorem dX0_copyFrom_95 : decode cX0_copyFrom 95 = .ok (.aload_n 0, 1) := by decide +kernel
theorem dX0_copyFrom_96 : decode cX0_copyFrom 96 = .ok (.aload_n 1, 1) := by decide +kernel
theorem dX0_copyFrom_97 : decode cX0_copyFrom 97 = .ok (.getfield 48, 3) := by decide +kernel
theorem dX0_copyFrom_100 : decode cX0_copyFrom 100 = .ok (.putfield 48, 3) := by decide +kernel
theorem dX0_copyFrom_103 : decode cX0_copyFrom 103 = .ok (.aload_n 0, 1) := by decide +kernel
theorem dX0_copyFrom_104 : decode cX0_copyFrom 104 = .ok (.aload_n 1, 1) := by decide +kernel
theorem dX0_copyFrom_105 : decode cX0_copyFrom 105 = .ok (.getfield 51, 3) := by decide +kernel
theorem dX0_copyFrom_108 : decode cX0_copyFrom 108 = .ok (.putfield 51, 3) := by decide +kernel
theorem dX0_copyFrom_111 : decode cX0_copyFrom 111 = .ok (.aload_n 0, 1) := by decide +kernel
theorem dX0_copyFrom_112 : decode cX0_copyFrom 112 = .ok (.aload_n 1, 1) := by decide +kernel
theorem dX0_copyFrom_113 : decode cX0_copyFrom 113 = .ok (.getfield 54, 3) := by decide +kernel
theorem dX0_copyFrom_116 : decode cX0_copyFrom 116 = .ok (.putfield 54, 3) := by decide +kernel
theorem dX0_copyFrom_119 : decode cX0_copyFrom 119 = .ok (.aload_n 0, 1) := by decide +kernel
theorem dX0_copyFrom_120 : decode cX0_copyFrom 120 = .ok (.aload_n 1, 1) := by decide +kernel
theorem dX0_copyFrom_121 : decode cX0_copyFrom 121 = .ok (.getfield 57, 3) := by decide +kernel
theorem dX0_copyFrom_124 : decode cX0_copyFrom 124 = .ok (.putfield 57, 3) := by decide +kernel
theorem dX0_copyFrom_127 : decode cX0_copyFrom 127 = .ok (.aload_n 0, 1) := by decide +kernel
theorem dX0_copyFrom_128 : decode cX0_copyFrom 128 = .ok (.aload_n 1, 1) := by decide +kernel
theorem dX0_copyFrom_129 : decode cX0_copyFrom 129 = .ok (.getfield 60, 3) := by decide +kernel
theorem dX0_copyFrom_132 : decode cX0_copyFrom 132 = .ok (.putfield 60, 3) := by decide +kernel
theorem dX0_copyFrom_135 : decode cX0_copyFrom 135 = .ok (.aload_n 0, 1) := by decide +kernel
theorem dX0_copyFrom_136 : decode cX0_copyFrom 136 = .ok (.aload_n 1, 1) := by decide +kernel
theorem dX0_copyFrom_137 : decode cX0_copyFrom 137 = .ok (.getfield 63, 3) := by decide +kernel
theorem dX0_copyFrom_140 : decode cX0_copyFrom 140 = .ok (.putfield 63, 3) := by decide +kernel
theorem dX0_copyFrom_143 : decode cX0_copyFrom 143 = .ok (.return_, 1) := by decide +kernel
set_option maxRecDepth 20000 in
theorem ggX0_hasPlaceUnder_X3_isFull : GoodIn wsX0_hasPlaceUnder wsX3_isFull := goodIn_r _ [7, 8, 9, 58, 59, 60, 61] (by decide +kernel) (by decide +kernel)
set_option maxRecDepth 20000 in
theorem gX0_hasPlaceUnder_X3_isFull : GoodIn wsX0_hasPlaceUnder (wsV RX0 66 RX3 yX3_isFull wsX3_isFull) := goodIn_app (goodIn_of _ (by decide +kernel)) ggX0_hasPlaceUnder_X3_isFull
set_option maxRecDepth 20000 in
theorem ggX0_hasPlaceUnder_X2_stands : GoodIn wsX0_hasPlaceUnder wsX2_stands := goodIn_r _ [14, 15, 16, 17, 18, 13, 19, 20, 21, 22, 6, 23, 8, 24, 25, 57, 58, 59, 60, 61] (by decide +kernel) (by decide +kernel)
set_option maxRecDepth 20000 in
theorem gX0_hasPlaceUnder_X2_stands : GoodIn wsX0_hasPlaceUnder (wsV RX0 70 RX2 yX2_stands wsX2_stands) := goodIn_app (goodIn_of _ (by decide +kernel)) ggX0_hasPlaceUnder_X2_stands
set_option maxRecDepth 20000 in
theorem ggX0_hasPlaceUnder_X2_fitsUnder : GoodIn wsX0_hasPlaceUnder wsX2_fitsUnder := goodIn_r _ [29, 15, 20, 21, 22, 6, 23, 8, 24, 25, 57, 58, 59, 60, 61] (by decide +kernel) (by decide +kernel)
set_option maxRecDepth 20000 in
theorem gX0_hasPlaceUnder_X2_fitsUnder : GoodIn wsX0_hasPlaceUnder (wsV RX0 74 RX2 yX2_fitsUnder wsX2_fitsUnder) := goodIn_app (goodIn_of _ (by decide +kernel)) ggX0_hasPlaceUnder_X2_fitsUnder
set_option maxRecDepth 20000 in
theorem ggX0_hasPlaceUnder_X2_chainLength : GoodIn wsX0_hasPlaceUnder wsX2_chainLength := goodIn_r _ [33, 34, 35, 36, 13, 37, 15, 20, 21, 22, 6, 23, 8, 24, 25, 38, 39, 40, 41, 42, 43, 44, 57, 58, 59, 60, 61] (by decide +kernel) (by decide +kernel)
set_option maxRecDepth 20000 in
theorem gX0_hasPlaceUnder_X2_chainLength : GoodIn wsX0_hasPlaceUnder (wsV RX0 78 RX2 yX2_chainLength wsX2_chainLength) := goodIn_app (goodIn_of _ (by decide +kernel)) ggX0_hasPlaceUnder_X2_chainLength
theorem dX0_hasPlaceUnder_0 : decode cX0_hasPlaceUnder 0 = .ok (.aload_n 0, 1) := by decide +kernel
theorem dX0_hasPlaceUnder_1 : decode cX0_hasPlaceUnder 1 = .ok (.getfield 12, 3) := by decide +kernel
theorem dX0_hasPlaceUnder_4 : decode cX0_hasPlaceUnder 4 = .ok (.getfield 38, 3) := by decide +kernel
theorem dX0_hasPlaceUnder_7 : decode cX0_hasPlaceUnder 7 = .ok (.invokevirtual 66, 3) := by decide +kernel
theorem dX0_hasPlaceUnder_10 : decode cX0_hasPlaceUnder 10 = .ok (.ifCond .ne 19, 3) := by decide +kernel
theorem dX0_hasPlaceUnder_13 : decode cX0_hasPlaceUnder 13 = .ok (.iload_n 1, 1) := by decide +kernel
theorem dX0_hasPlaceUnder_14 : decode cX0_hasPlaceUnder 14 = .ok (.iconst (-1), 1) := by decide +kernel
theorem dX0_hasPlaceUnder_15 : decode cX0_hasPlaceUnder 15 = .ok (.if_icmp .eq 16, 3) := by decide +kernel
theorem dX0_hasPlaceUnder_18 : decode cX0_hasPlaceUnder 18 = .ok (.aload_n 0, 1) := by decide +kernel
theorem dX0_hasPlaceUnder_19 : decode cX0_hasPlaceUnder 19 = .ok (.getfield 12, 3) := by decide +kernel
theorem dX0_hasPlaceUnder_22 : decode cX0_hasPlaceUnder 22 = .ok (.iload_n 1, 1) := by decide +kernel
theorem dX0_hasPlaceUnder_23 : decode cX0_hasPlaceUnder 23 = .ok (.invokevirtual 70, 3) := by decide +kernel
theorem dX0_hasPlaceUnder_26 : decode cX0_hasPlaceUnder 26 = .ok (.ifCond .ne 5, 3) := by decide +kernel
theorem dX0_hasPlaceUnder_29 : decode cX0_hasPlaceUnder 29 = .ok (.iconst 0, 1) := by decide +kernel
theorem dX0_hasPlaceUnder_30 : decode cX0_hasPlaceUnder 30 = .ok (.ireturn, 1) := by decide +kernel
theorem dX0_hasPlaceUnder_31 : decode cX0_hasPlaceUnder 31 = .ok (.aload_n 0, 1) := by decide +kernel
theorem dX0_hasPlaceUnder_32 : decode cX0_hasPlaceUnder 32 = .ok (.getfield 12, 3) := by decide +kernel
theorem dX0_hasPlaceUnder_35 : decode cX0_hasPlaceUnder 35 = .ok (.iload_n 1, 1) := by decide +kernel
theorem dX0_hasPlaceUnder_36 : decode cX0_hasPlaceUnder 36 = .ok (.iload_n 2, 1) := by decide +kernel
theorem dX0_hasPlaceUnder_37 : decode cX0_hasPlaceUnder 37 = .ok (.iload_n 3, 1) := by decide +kernel
theorem dX0_hasPlaceUnder_38 : decode cX0_hasPlaceUnder 38 = .ok (.invokevirtual 74, 3) := by decide +kernel
theorem dX0_hasPlaceUnder_41 : decode cX0_hasPlaceUnder 41 = .ok (.ifCond .eq 22, 3) := by decide +kernel
theorem dX0_hasPlaceUnder_44 : decode cX0_hasPlaceUnder 44 = .ok (.aload_n 0, 1) := by decide +kernel
theorem dX0_hasPlaceUnder_45 : decode cX0_hasPlaceUnder 45 = .ok (.getfield 12, 3) := by decide +kernel
theorem dX0_hasPlaceUnder_48 : decode cX0_hasPlaceUnder 48 = .ok (.iload_n 1, 1) := by decide +kernel
theorem dX0_hasPlaceUnder_49 : decode cX0_hasPlaceUnder 49 = .ok (.invokevirtual 78, 3) := by decide +kernel
theorem dX0_hasPlaceUnder_52 : decode cX0_hasPlaceUnder 52 = .ok (.aload_n 0, 1) := by decide +kernel
theorem dX0_hasPlaceUnder_53 : decode cX0_hasPlaceUnder 53 = .ok (.getfield 35, 3) := by decide +kernel
theorem dX0_hasPlaceUnder_56 : decode cX0_hasPlaceUnder 56 = .ok (.if_icmp .ge 7, 3) := by decide +kernel
theorem dX0_hasPlaceUnder_59 : decode cX0_hasPlaceUnder 59 = .ok (.iconst 1, 1) := by decide +kernel
theorem dX0_hasPlaceUnder_60 : decode cX0_hasPlaceUnder 60 = .ok (.goto 4, 3) := by decide +kernel
theorem dX0_hasPlaceUnder_63 : decode cX0_hasPlaceUnder 63 = .ok (.iconst 0, 1) := by decide +kernel
theorem dX0_hasPlaceUnder_64 : decode cX0_hasPlaceUnder 64 = .ok (.ireturn, 1) := by decide +kernel
set_option maxRecDepth 20000 in
theorem ggX0_lapse_X2_wouldLapse : GoodIn wsX0_lapse wsX2_wouldLapse := goodIn_r _ [9, 10, 11, 12, 13, 8, 14, 15, 16, 17, 18, 19, 20, 21, 22, 23, 24, 25, 26, 27, 28, 29, 74, 70, 71, 72, 73] (by decide +kernel) (by decide +kernel)
set_option maxRecDepth 20000 in
theorem gX0_lapse_X2_wouldLapse : GoodIn wsX0_lapse (wsV RX0 82 RX2 yX2_wouldLapse wsX2_wouldLapse) := goodIn_app (goodIn_of _ (by decide +kernel)) ggX0_lapse_X2_wouldLapse
set_option maxRecDepth 20000 in
theorem ggX0_lapse_X2_lapseAll : GoodIn wsX0_lapse wsX2_lapseAll := goodIn_r _ [33, 10, 15, 16, 17, 8, 18, 27, 28, 29, 34, 35, 36, 22, 37, 24, 25, 26, 74, 70, 71, 72, 73] (by decide +kernel) (by decide +kernel)
set_option maxRecDepth 20000 in
theorem gX0_lapse_X2_lapseAll : GoodIn wsX0_lapse (wsV RX0 85 RX2 yX2_lapseAll wsX2_lapseAll) := goodIn_app (goodIn_of _ (by decide +kernel)) ggX0_lapse_X2_lapseAll
set_option maxRecDepth 20000 in
theorem ggX0_lapse_X0_isUrgent : GoodIn wsX0_lapse wsX0_isUrgent := goodIn_r _ [42, 3, 43, 20, 21, 22, 23, 24, 25, 26, 58, 59, 60, 61, 62, 63, 64, 65, 66, 67, 68, 69, 70, 71, 72, 73] (by decide +kernel) (by decide +kernel)
set_option maxRecDepth 20000 in
theorem gX0_lapse_X0_isUrgent : GoodIn wsX0_lapse (wsV RX0 91 RX0 yX0_isUrgent wsX0_isUrgent) := goodIn_app (goodIn_of _ (by decide +kernel)) ggX0_lapse_X0_isUrgent
set_option maxRecDepth 20000 in
theorem ggX0_lapse_X3_get : GoodIn wsX0_lapse wsX3_get := goodIn_r _ [23, 24, 25, 26, 70, 71, 72, 73] (by decide +kernel) (by decide +kernel)
set_option maxRecDepth 20000 in
theorem gX0_lapse_X3_get : GoodIn wsX0_lapse (wsV RX0 94 RX3 yX3_get wsX3_get) := goodIn_app (goodIn_of _ (by decide +kernel)) ggX0_lapse_X3_get
set_option maxRecDepth 20000 in
theorem ggX0_lapse_X2_isIn : GoodIn wsX0_lapse wsX2_isIn := goodIn_r _ [29] (by decide +kernel) (by decide +kernel)
set_option maxRecDepth 20000 in
theorem gX0_lapse_X2_isIn : GoodIn wsX0_lapse (va_wsS RX0 98 yX2_isIn wsX2_isIn) := goodIn_app (goodIn_of _ (by decide +kernel)) ggX0_lapse_X2_isIn
set_option maxRecDepth 20000 in
theorem ggX0_lapse_X3_removeRow : GoodIn wsX0_lapse wsX3_removeRow := goodIn_r _ [48, 24, 25, 49, 20, 21, 22, 23, 26, 50, 35, 36, 37, 70, 71, 72, 73] (by decide +kernel) (by decide +kernel)
set_option maxRecDepth 20000 in
theorem gX0_lapse_X3_removeRow : GoodIn wsX0_lapse (wsV RX0 102 RX3 yX3_removeRow wsX3_removeRow) := goodIn_app (goodIn_of _ (by decide +kernel)) ggX0_lapse_X3_removeRow
set_option maxRecDepth 20000 in
theorem ggX0_lapse_J6_bitCount_0f7a4 : GoodIn wsX0_lapse wsJ6_bitCount_0f7a4 := goodIn_r _ [54, 55, 56, 57] (by decide +kernel) (by decide +kernel)
set_option maxRecDepth 20000 in
theorem gX0_lapse_J6_bitCount_0f7a4 : GoodIn wsX0_lapse (va_wsS RX0 106 yJ6_bitCount_0f7a4 wsJ6_bitCount_0f7a4) := goodIn_app (goodIn_of _ (by decide +kernel)) ggX0_lapse_J6_bitCount_0f7a4
theorem dX0_lapse_0 : decode cX0_lapse 0 = .ok (.aload_n 0, 1) := by decide +kernel
theorem dX0_lapse_1 : decode cX0_lapse 1 = .ok (.getfield 12, 3) := by decide +kernel
theorem dX0_lapse_4 : decode cX0_lapse 4 = .ok (.iload_n 1, 1) := by decide +kernel
theorem dX0_lapse_5 : decode cX0_lapse 5 = .ok (.invokevirtual 82, 3) := by decide +kernel
theorem dX0_lapse_8 : decode cX0_lapse 8 = .ok (.istore_n 2, 1) := by decide +kernel
theorem dX0_lapse_9 : decode cX0_lapse 9 = .ok (.aload_n 0, 1) := by decide +kernel
theorem dX0_lapse_10 : decode cX0_lapse 10 = .ok (.getfield 12, 3) := by decide +kernel
theorem dX0_lapse_13 : decode cX0_lapse 13 = .ok (.iload_n 2, 1) := by decide +kernel
theorem dX0_lapse_14 : decode cX0_lapse 14 = .ok (.aload_n 0, 1) := by decide +kernel
theorem dX0_lapse_15 : decode cX0_lapse 15 = .ok (.getfield 45, 3) := by decide +kernel
theorem dX0_lapse_18 : decode cX0_lapse 18 = .ok (.invokevirtual 85, 3) := by decide +kernel
theorem dX0_lapse_21 : decode cX0_lapse 21 = .ok (.aload_n 0, 1) := by decide +kernel
theorem dX0_lapse_22 : decode cX0_lapse 22 = .ok (.getfield 23, 3) := by decide +kernel
theorem dX0_lapse_25 : decode cX0_lapse 25 = .ok (.getfield 88, 3) := by decide +kernel
theorem dX0_lapse_28 : decode cX0_lapse 28 = .ok (.iconst 1, 1) := by decide +kernel
theorem dX0_lapse_29 : decode cX0_lapse 29 = .ok (.isub, 1) := by decide +kernel
theorem dX0_lapse_30 : decode cX0_lapse 30 = .ok (.istore_n 3, 1) := by decide +kernel
theorem dX0_lapse_31 : decode cX0_lapse 31 = .ok (.iload_n 3, 1) := by decide +kernel
theorem dX0_lapse_32 : decode cX0_lapse 32 = .ok (.ifCond .lt 51, 3) := by decide +kernel
theorem dX0_lapse_35 : decode cX0_lapse 35 = .ok (.aload_n 0, 1) := by decide +kernel
theorem dX0_lapse_36 : decode cX0_lapse 36 = .ok (.iload_n 3, 1) := by decide +kernel
theorem dX0_lapse_37 : decode cX0_lapse 37 = .ok (.invokevirtual 91, 3) := by decide +kernel
theorem dX0_lapse_40 : decode cX0_lapse 40 = .ok (.ifCond .ne 37, 3) := by decide +kernel
theorem dX0_lapse_43 : decode cX0_lapse 43 = .ok (.iload_n 2, 1) := by decide +kernel
theorem dX0_lapse_44 : decode cX0_lapse 44 = .ok (.aload_n 0, 1) := by decide +kernel
theorem dX0_lapse_45 : decode cX0_lapse 45 = .ok (.getfield 23, 3) := by decide +kernel
theorem dX0_lapse_48 : decode cX0_lapse 48 = .ok (.iload_n 3, 1) := by decide +kernel
theorem dX0_lapse_49 : decode cX0_lapse 49 = .ok (.iconst 0, 1) := by decide +kernel
theorem dX0_lapse_50 : decode cX0_lapse 50 = .ok (.invokevirtual 94, 3) := by decide +kernel
theorem dX0_lapse_53 : decode cX0_lapse 53 = .ok (.invokestatic 98, 3) := by decide +kernel
theorem dX0_lapse_56 : decode cX0_lapse 56 = .ok (.ifCond .eq 21, 3) := by decide +kernel
theorem dX0_lapse_59 : decode cX0_lapse 59 = .ok (.aload_n 0, 1) := by decide +kernel
theorem dX0_lapse_60 : decode cX0_lapse 60 = .ok (.getfield 23, 3) := by decide +kernel
theorem dX0_lapse_63 : decode cX0_lapse 63 = .ok (.iload_n 3, 1) := by decide +kernel
theorem dX0_lapse_64 : decode cX0_lapse 64 = .ok (.invokevirtual 102, 3) := by decide +kernel
theorem dX0_lapse_67 : decode cX0_lapse 67 = .ok (.aload_n 0, 1) := by decide +kernel
theorem dX0_lapse_68 : decode cX0_lapse 68 = .ok (.dup, 1) := by decide +kernel
theorem dX0_lapse_69 : decode cX0_lapse 69 = .ok (.getfield 60, 3) := by decide +kernel
theorem dX0_lapse_72 : decode cX0_lapse 72 = .ok (.iconst 1, 1) := by decide +kernel
theorem dX0_lapse_73 : decode cX0_lapse 73 = .ok (.iadd, 1) := by decide +kernel
theorem dX0_lapse_74 : decode cX0_lapse 74 = .ok (.putfield 60, 3) := by decide +kernel
theorem dX0_lapse_77 : decode cX0_lapse 77 = .ok (.iinc 3 (-1), 3) := by decide +kernel
theorem dX0_lapse_80 : decode cX0_lapse 80 = .ok (.goto (-49), 3) := by decide +kernel
theorem dX0_lapse_83 : decode cX0_lapse 83 = .ok (.iload_n 2, 1) := by decide +kernel
theorem dX0_lapse_84 : decode cX0_lapse 84 = .ok (.invokestatic 106, 3) := by decide +kernel
theorem dX0_lapse_87 : decode cX0_lapse 87 = .ok (.ireturn, 1) := by decide +kernel
set_option maxRecDepth 20000 in
theorem ggX0_canAskFor_X2_refusal : GoodIn wsX0_canAskFor wsX2_refusal := goodIn_r _ [7, 8, 9, 10, 11, 6, 12, 13, 14, 15, 16, 17, 18, 19, 20, 21, 22, 23, 24, 25, 26, 27, 28, 29, 30, 31, 32, 58, 59, 60, 61, 62] (by decide +kernel) (by decide +kernel)
set_option maxRecDepth 20000 in
theorem gX0_canAskFor_X2_refusal : GoodIn wsX0_canAskFor (wsV RX0 111 RX2 yX2_refusal wsX2_refusal) := goodIn_app (goodIn_of _ (by decide +kernel)) ggX0_canAskFor_X2_refusal
set_option maxRecDepth 20000 in
theorem ggX0_canAskFor_X2_mostUrgent : GoodIn wsX0_canAskFor wsX2_mostUrgent := goodIn_r _ [36, 8, 17, 18, 19, 20, 21, 22, 23, 24, 58, 59, 60, 61, 62] (by decide +kernel) (by decide +kernel)
set_option maxRecDepth 20000 in
theorem gX0_canAskFor_X2_mostUrgent : GoodIn wsX0_canAskFor (wsV RX0 114 RX2 yX2_mostUrgent wsX2_mostUrgent) := goodIn_app (goodIn_of _ (by decide +kernel)) ggX0_canAskFor_X2_mostUrgent
set_option maxRecDepth 20000 in
theorem ggX0_canAskFor_X2_get : GoodIn wsX0_canAskFor wsX2_get := goodIn_r _ [40, 8, 17, 18, 19, 20, 21, 22, 23, 24, 58, 59, 60, 61, 62] (by decide +kernel) (by decide +kernel)
set_option maxRecDepth 20000 in
theorem gX0_canAskFor_X2_get : GoodIn wsX0_canAskFor (wsV RX0 117 RX2 yX2_get wsX2_get) := goodIn_app (goodIn_of _ (by decide +kernel)) ggX0_canAskFor_X2_get
set_option maxRecDepth 20000 in
theorem ggX0_canAskFor_X3_isFull : GoodIn wsX0_canAskFor wsX3_isFull := goodIn_r _ [44, 22, 45, 59, 60, 61, 62] (by decide +kernel) (by decide +kernel)
set_option maxRecDepth 20000 in
theorem gX0_canAskFor_X3_isFull : GoodIn wsX0_canAskFor (wsV RX0 66 RX3 yX3_isFull wsX3_isFull) := goodIn_app (goodIn_of _ (by decide +kernel)) ggX0_canAskFor_X3_isFull
theorem dX0_canAskFor_0 : decode cX0_canAskFor 0 = .ok (.aload_n 0, 1) := by decide +kernel
theorem dX0_canAskFor_1 : decode cX0_canAskFor 1 = .ok (.getfield 12, 3) := by decide +kernel
theorem dX0_canAskFor_4 : decode cX0_canAskFor 4 = .ok (.iload_n 1, 1) := by decide +kernel
theorem dX0_canAskFor_5 : decode cX0_canAskFor 5 = .ok (.iload_n 2, 1) := by decide +kernel
theorem dX0_canAskFor_6 : decode cX0_canAskFor 6 = .ok (.invokevirtual 111, 3) := by decide +kernel
theorem dX0_canAskFor_9 : decode cX0_canAskFor 9 = .ok (.ifCond .eq 5, 3) := by decide +kernel
theorem dX0_canAskFor_12 : decode cX0_canAskFor 12 = .ok (.iconst 0, 1) := by decide +kernel
theorem dX0_canAskFor_13 : decode cX0_canAskFor 13 = .ok (.ireturn, 1) := by decide +kernel
theorem dX0_canAskFor_14 : decode cX0_canAskFor 14 = .ok (.iload_n 3, 1) := by decide +kernel
theorem dX0_canAskFor_15 : decode cX0_canAskFor 15 = .ok (.ifCond .eq 17, 3) := by decide +kernel
theorem dX0_canAskFor_18 : decode cX0_canAskFor 18 = .ok (.iload_n 2, 1) := by decide +kernel
theorem dX0_canAskFor_19 : decode cX0_canAskFor 19 = .ok (.aload_n 0, 1) := by decide +kernel
theorem dX0_canAskFor_20 : decode cX0_canAskFor 20 = .ok (.getfield 12, 3) := by decide +kernel
theorem dX0_canAskFor_23 : decode cX0_canAskFor 23 = .ok (.iload_n 1, 1) := by decide +kernel
theorem dX0_canAskFor_24 : decode cX0_canAskFor 24 = .ok (.invokevirtual 114, 3) := by decide +kernel
theorem dX0_canAskFor_27 : decode cX0_canAskFor 27 = .ok (.if_icmp .le 5, 3) := by decide +kernel
theorem dX0_canAskFor_30 : decode cX0_canAskFor 30 = .ok (.iconst 0, 1) := by decide +kernel
theorem dX0_canAskFor_31 : decode cX0_canAskFor 31 = .ok (.ireturn, 1) := by decide +kernel
theorem dX0_canAskFor_32 : decode cX0_canAskFor 32 = .ok (.aload_n 0, 1) := by decide +kernel
theorem dX0_canAskFor_33 : decode cX0_canAskFor 33 = .ok (.getfield 12, 3) := by decide +kernel
theorem dX0_canAskFor_36 : decode cX0_canAskFor 36 = .ok (.iload_n 1, 1) := by decide +kernel
theorem dX0_canAskFor_37 : decode cX0_canAskFor 37 = .ok (.iconst 4, 1) := by decide +kernel
theorem dX0_canAskFor_38 : decode cX0_canAskFor 38 = .ok (.invokevirtual 117, 3) := by decide +kernel
theorem dX0_canAskFor_41 : decode cX0_canAskFor 41 = .ok (.ifCond .eq 13, 3) := by decide +kernel
theorem dX0_canAskFor_44 : decode cX0_canAskFor 44 = .ok (.aload_n 0, 1) := by decide +kernel
theorem dX0_canAskFor_45 : decode cX0_canAskFor 45 = .ok (.getfield 23, 3) := by decide +kernel
theorem dX0_canAskFor_48 : decode cX0_canAskFor 48 = .ok (.invokevirtual 66, 3) := by decide +kernel
theorem dX0_canAskFor_51 : decode cX0_canAskFor 51 = .ok (.ifCond .ne 7, 3) := by decide +kernel
theorem dX0_canAskFor_54 : decode cX0_canAskFor 54 = .ok (.iconst 1, 1) := by decide +kernel
theorem dX0_canAskFor_55 : decode cX0_canAskFor 55 = .ok (.goto 4, 3) := by decide +kernel
theorem dX0_canAskFor_58 : decode cX0_canAskFor 58 = .ok (.iconst 0, 1) := by decide +kernel
theorem dX0_canAskFor_59 : decode cX0_canAskFor 59 = .ok (.ireturn, 1) := by decide +kernel
set_option maxRecDepth 20000 in
theorem ggX0_carryOut_X2_get : GoodIn wsX0_carryOut wsX2_get := goodIn_r _ [7, 8, 9, 10, 11, 12, 13, 14, 15, 16, 62, 63, 64, 65, 66] (by decide +kernel) (by decide +kernel)
set_option maxRecDepth 20000 in
theorem gX0_carryOut_X2_get : GoodIn wsX0_carryOut (wsV RX0 117 RX2 yX2_get wsX2_get) := goodIn_app (goodIn_of _ (by decide +kernel)) ggX0_carryOut_X2_get
set_option maxRecDepth 20000 in
theorem ggX0_carryOut_X0_makeSpending : GoodIn wsX0_carryOut wsX0_makeSpending := goodIn_r _ [21, 1, 22, 23, 24, 25, 26, 27, 6, 28, 8, 9, 10, 11, 12, 13, 14, 15, 16, 29, 30, 31, 32, 50, 51, 52, 53, 54, 55, 56, 57, 58, 59, 60, 61, 62, 63, 64, 65, 66] (by decide +kernel) (by decide +kernel)
set_option maxRecDepth 20000 in
theorem gX0_carryOut_X0_makeSpending : GoodIn wsX0_carryOut (wsV RX0 118 RX0 yX0_makeSpending wsX0_makeSpending) := goodIn_app (goodIn_of _ (by decide +kernel)) ggX0_carryOut_X0_makeSpending
set_option maxRecDepth 20000 in
theorem ggX0_carryOut_X0_addRequest : GoodIn wsX0_carryOut wsX0_addRequest := goodIn_r _ [36, 37, 38, 39, 40, 41, 12, 42, 14, 15, 43, 44, 45, 46, 47, 48, 30, 31, 32, 16, 49, 50, 51, 52, 53, 54, 55, 56, 57, 58, 59, 60, 61, 63, 64, 65, 66] (by decide +kernel) (by decide +kernel)
set_option maxRecDepth 20000 in
theorem gX0_carryOut_X0_addRequest : GoodIn wsX0_carryOut (wsV RX0 121 RX0 yX0_addRequest wsX0_addRequest) := goodIn_app (goodIn_of _ (by decide +kernel)) ggX0_carryOut_X0_addRequest
theorem dX0_carryOut_0 : decode cX0_carryOut 0 = .ok (.aload_n 0, 1) := by decide +kernel
theorem dX0_carryOut_1 : decode cX0_carryOut 1 = .ok (.getfield 12, 3) := by decide +kernel
theorem dX0_carryOut_4 : decode cX0_carryOut 4 = .ok (.iload_n 1, 1) := by decide +kernel
theorem dX0_carryOut_5 : decode cX0_carryOut 5 = .ok (.iconst 4, 1) := by decide +kernel
theorem dX0_carryOut_6 : decode cX0_carryOut 6 = .ok (.invokevirtual 117, 3) := by decide +kernel
theorem dX0_carryOut_9 : decode cX0_carryOut 9 = .ok (.istore 4, 2) := by decide +kernel
theorem dX0_carryOut_11 : decode cX0_carryOut 11 = .ok (.iload_n 3, 1) := by decide +kernel
theorem dX0_carryOut_12 : decode cX0_carryOut 12 = .ok (.ifCond .ne 8, 3) := by decide +kernel
theorem dX0_carryOut_15 : decode cX0_carryOut 15 = .ok (.iload 4, 2) := by decide +kernel
theorem dX0_carryOut_17 : decode cX0_carryOut 17 = .ok (.ifCond .ne 9, 3) := by decide +kernel
theorem dX0_carryOut_20 : decode cX0_carryOut 20 = .ok (.aload_n 0, 1) := by decide +kernel
theorem dX0_carryOut_21 : decode cX0_carryOut 21 = .ok (.iload_n 1, 1) := by decide +kernel
theorem dX0_carryOut_22 : decode cX0_carryOut 22 = .ok (.iload_n 2, 1) := by decide +kernel
theorem dX0_carryOut_23 : decode cX0_carryOut 23 = .ok (.invokevirtual 118, 3) := by decide +kernel
theorem dX0_carryOut_26 : decode cX0_carryOut 26 = .ok (.iload_n 3, 1) := by decide +kernel
theorem dX0_carryOut_27 : decode cX0_carryOut 27 = .ok (.ifCond .eq 13, 3) := by decide +kernel
theorem dX0_carryOut_30 : decode cX0_carryOut 30 = .ok (.aload_n 0, 1) := by decide +kernel
theorem dX0_carryOut_31 : decode cX0_carryOut 31 = .ok (.dup, 1) := by decide +kernel
theorem dX0_carryOut_32 : decode cX0_carryOut 32 = .ok (.getfield 57, 3) := by decide +kernel
theorem dX0_carryOut_35 : decode cX0_carryOut 35 = .ok (.iconst 1, 1) := by decide +kernel
theorem dX0_carryOut_36 : decode cX0_carryOut 36 = .ok (.iadd, 1) := by decide +kernel
theorem dX0_carryOut_37 : decode cX0_carryOut 37 = .ok (.putfield 57, 3) := by decide +kernel
theorem dX0_carryOut_40 : decode cX0_carryOut 40 = .ok (.iload 4, 2) := by decide +kernel
theorem dX0_carryOut_42 : decode cX0_carryOut 42 = .ok (.ifCond .ne 5, 3) := by decide +kernel
theorem dX0_carryOut_45 : decode cX0_carryOut 45 = .ok (.iconst 0, 1) := by decide +kernel
theorem dX0_carryOut_46 : decode cX0_carryOut 46 = .ok (.ireturn, 1) := by decide +kernel
theorem dX0_carryOut_47 : decode cX0_carryOut 47 = .ok (.aload_n 0, 1) := by decide +kernel
theorem dX0_carryOut_48 : decode cX0_carryOut 48 = .ok (.iload_n 1, 1) := by decide +kernel
theorem dX0_carryOut_49 : decode cX0_carryOut 49 = .ok (.iload_n 2, 1) := by decide +kernel
theorem dX0_carryOut_50 : decode cX0_carryOut 50 = .ok (.iload_n 3, 1) := by decide +kernel
theorem dX0_carryOut_51 : decode cX0_carryOut 51 = .ok (.iload 4, 2) := by decide +kernel
theorem dX0_carryOut_53 : decode cX0_carryOut 53 = .ok (.invokevirtual 121, 3) := by decide +kernel
theorem dX0_carryOut_56 : decode cX0_carryOut 56 = .ok (.iconst 1, 1) := by decide +kernel
theorem dX0_carryOut_57 : decode cX0_carryOut 57 = .ok (.ireturn, 1) := by decide +kernel
set_option maxRecDepth 20000 in
theorem ggX0_isUrgent_X3_get : GoodIn wsX0_isUrgent wsX3_get := goodIn_r _ [6, 7, 8, 9, 22, 23, 24, 25] (by decide +kernel) (by decide +kernel)
set_option maxRecDepth 20000 in
theorem gX0_isUrgent_X3_get : GoodIn wsX0_isUrgent (wsV RX0 94 RX3 yX3_get wsX3_get) := goodIn_app (goodIn_of _ (by decide +kernel)) ggX0_isUrgent_X3_get
theorem dX0_isUrgent_0 : decode cX0_isUrgent 0 = .ok (.aload_n 0, 1) := by decide +kernel
theorem dX0_isUrgent_1 : decode cX0_isUrgent 1 = .ok (.getfield 23, 3) := by decide +kernel
theorem dX0_isUrgent_4 : decode cX0_isUrgent 4 = .ok (.iload_n 1, 1) := by decide +kernel
theorem dX0_isUrgent_5 : decode cX0_isUrgent 5 = .ok (.iconst 3, 1) := by decide +kernel
theorem dX0_isUrgent_6 : decode cX0_isUrgent 6 = .ok (.invokevirtual 94, 3) := by decide +kernel
theorem dX0_isUrgent_9 : decode cX0_isUrgent 9 = .ok (.iconst 1, 1) := by decide +kernel
theorem dX0_isUrgent_10 : decode cX0_isUrgent 10 = .ok (.if_icmp .ne 7, 3) := by decide +kernel
theorem dX0_isUrgent_13 : decode cX0_isUrgent 13 = .ok (.iconst 1, 1) := by decide +kernel
theorem dX0_isUrgent_14 : decode cX0_isUrgent 14 = .ok (.goto 4, 3) := by decide +kernel
theorem dX0_isUrgent_17 : decode cX0_isUrgent 17 = .ok (.iconst 0, 1) := by decide +kernel
theorem dX0_isUrgent_18 : decode cX0_isUrgent 18 = .ok (.ireturn, 1) := by decide +kernel
set_option maxRecDepth 20000 in
theorem ggX0_couldApproveNow_X3_get : GoodIn wsX0_couldApproveNow wsX3_get := goodIn_r _ [7, 8, 9, 10, 30, 31, 32, 33] (by decide +kernel) (by decide +kernel)
set_option maxRecDepth 20000 in
theorem gX0_couldApproveNow_X3_get : GoodIn wsX0_couldApproveNow (wsV RX0 94 RX3 yX3_get wsX3_get) := goodIn_app (goodIn_of _ (by decide +kernel)) ggX0_couldApproveNow_X3_get
set_option maxRecDepth 20000 in
theorem ggX0_couldApproveNow_X2_approversOf : GoodIn wsX0_couldApproveNow wsX2_approversOf := goodIn_r _ [15, 16, 17, 4, 5, 6, 7, 8, 9, 10, 34, 30, 31, 32, 33] (by decide +kernel) (by decide +kernel)
set_option maxRecDepth 20000 in
theorem gX0_couldApproveNow_X2_approversOf : GoodIn wsX0_couldApproveNow (wsV RX0 125 RX2 yX2_approversOf wsX2_approversOf) := goodIn_app (goodIn_of _ (by decide +kernel)) ggX0_couldApproveNow_X2_approversOf
theorem dX0_couldApproveNow_0 : decode cX0_couldApproveNow 0 = .ok (.aload_n 0, 1) := by decide +kernel
theorem dX0_couldApproveNow_1 : decode cX0_couldApproveNow 1 = .ok (.getfield 12, 3) := by decide +kernel
theorem dX0_couldApproveNow_4 : decode cX0_couldApproveNow 4 = .ok (.aload_n 0, 1) := by decide +kernel
theorem dX0_couldApproveNow_5 : decode cX0_couldApproveNow 5 = .ok (.getfield 23, 3) := by decide +kernel
theorem dX0_couldApproveNow_8 : decode cX0_couldApproveNow 8 = .ok (.iload_n 1, 1) := by decide +kernel
theorem dX0_couldApproveNow_9 : decode cX0_couldApproveNow 9 = .ok (.iconst 0, 1) := by decide +kernel
theorem dX0_couldApproveNow_10 : decode cX0_couldApproveNow 10 = .ok (.invokevirtual 94, 3) := by decide +kernel
theorem dX0_couldApproveNow_13 : decode cX0_couldApproveNow 13 = .ok (.invokevirtual 125, 3) := by decide +kernel
theorem dX0_couldApproveNow_16 : decode cX0_couldApproveNow 16 = .ok (.aload_n 0, 1) := by decide +kernel
theorem dX0_couldApproveNow_17 : decode cX0_couldApproveNow 17 = .ok (.getfield 23, 3) := by decide +kernel
theorem dX0_couldApproveNow_20 : decode cX0_couldApproveNow 20 = .ok (.iload_n 1, 1) := by decide +kernel
theorem dX0_couldApproveNow_21 : decode cX0_couldApproveNow 21 = .ok (.iconst 5, 1) := by decide +kernel
theorem dX0_couldApproveNow_22 : decode cX0_couldApproveNow 22 = .ok (.invokevirtual 94, 3) := by decide +kernel
theorem dX0_couldApproveNow_25 : decode cX0_couldApproveNow 25 = .ok (.iconst (-1), 1) := by decide +kernel
theorem dX0_couldApproveNow_26 : decode cX0_couldApproveNow 26 = .ok (.ixor, 1) := by decide +kernel
theorem dX0_couldApproveNow_27 : decode cX0_couldApproveNow 27 = .ok (.iand, 1) := by decide +kernel
theorem dX0_couldApproveNow_28 : decode cX0_couldApproveNow 28 = .ok (.ireturn, 1) := by decide +kernel
set_option maxRecDepth 20000 in
theorem ggX0_couldApprove_X0_couldApproveNow : GoodIn wsX0_couldApprove wsX0_couldApproveNow := goodIn_r _ [5, 6, 7, 8, 9, 10, 11, 12, 13, 14, 15, 16, 17, 18, 19, 20, 21, 22, 26, 27, 28, 29, 30, 31, 32, 33, 34, 35, 36, 37, 38, 39, 40, 41, 42] (by decide +kernel) (by decide +kernel)
set_option maxRecDepth 20000 in
theorem gX0_couldApprove_X0_couldApproveNow : GoodIn wsX0_couldApprove (wsV RX0 128 RX0 yX0_couldApproveNow wsX0_couldApproveNow) := goodIn_app (goodIn_of _ (by decide +kernel)) ggX0_couldApprove_X0_couldApproveNow
set_option maxRecDepth 20000 in
theorem ggX0_couldApprove_X0_isPersonIn : GoodIn wsX0_couldApprove wsX0_isPersonIn := goodIn_r _ [25] (by decide +kernel) (by decide +kernel)
set_option maxRecDepth 20000 in
theorem gX0_couldApprove_X0_isPersonIn : GoodIn wsX0_couldApprove (va_wsS RX0 131 yX0_isPersonIn wsX0_isPersonIn) := goodIn_app (goodIn_of _ (by decide +kernel)) ggX0_couldApprove_X0_isPersonIn
theorem dX0_couldApprove_0 : decode cX0_couldApprove 0 = .ok (.aload_n 0, 1) := by decide +kernel
theorem dX0_couldApprove_1 : decode cX0_couldApprove 1 = .ok (.iload_n 1, 1) := by decide +kernel
theorem dX0_couldApprove_2 : decode cX0_couldApprove 2 = .ok (.invokevirtual 128, 3) := by decide +kernel
theorem dX0_couldApprove_5 : decode cX0_couldApprove 5 = .ok (.iload_n 2, 1) := by decide +kernel
theorem dX0_couldApprove_6 : decode cX0_couldApprove 6 = .ok (.invokestatic 131, 3) := by decide +kernel
theorem dX0_couldApprove_9 : decode cX0_couldApprove 9 = .ok (.ireturn, 1) := by decide +kernel
set_option maxRecDepth 20000 in
theorem ggX0_addApproval_X3_get : GoodIn wsX0_addApproval wsX3_get := goodIn_r _ [7, 8, 9, 10, 90, 91, 92, 93] (by decide +kernel) (by decide +kernel)
set_option maxRecDepth 20000 in
theorem gX0_addApproval_X3_get : GoodIn wsX0_addApproval (wsV RX0 94 RX3 yX3_get wsX3_get) := goodIn_app (goodIn_of _ (by decide +kernel)) ggX0_addApproval_X3_get
set_option maxRecDepth 20000 in
theorem ggX0_addApproval_X3_put : GoodIn wsX0_addApproval wsX3_put := goodIn_r _ [14, 8, 9, 10, 90, 91, 92, 93] (by decide +kernel) (by decide +kernel)
set_option maxRecDepth 20000 in
theorem gX0_addApproval_X3_put : GoodIn wsX0_addApproval (wsV RX0 134 RX3 yX3_put wsX3_put) := goodIn_app (goodIn_of _ (by decide +kernel)) ggX0_addApproval_X3_put
set_option maxRecDepth 20000 in
theorem ggX0_addApproval_J6_bitCount_0f7a4 : GoodIn wsX0_addApproval wsJ6_bitCount_0f7a4 := goodIn_r _ [18, 19, 20, 21] (by decide +kernel) (by decide +kernel)
set_option maxRecDepth 20000 in
theorem gX0_addApproval_J6_bitCount_0f7a4 : GoodIn wsX0_addApproval (va_wsS RX0 106 yJ6_bitCount_0f7a4 wsJ6_bitCount_0f7a4) := goodIn_app (goodIn_of _ (by decide +kernel)) ggX0_addApproval_J6_bitCount_0f7a4
set_option maxRecDepth 20000 in
theorem ggX0_addApproval_X0_settle : GoodIn wsX0_addApproval wsX0_settle := goodIn_r _ [26, 2, 27, 28, 29, 30, 31, 25, 32, 3, 4, 5, 6, 7, 8, 9, 10, 33, 34, 35, 36, 37, 38, 39, 40, 41, 42, 12, 13, 14, 43, 44, 45, 46, 47, 48, 49, 50, 51, 52, 53, 54, 55, 56, 57, 58, 59, 60, 61, 62, 63, 64, 65, 66, 67, 68, 69, 70, 71, 72, 73, 74, 75, 76, 77, 78, 79, 80, 81, 82, 83, 84, 85, 86, 87, 88, 89, 90, 91, 92, 93, 94] (by decide +kernel) (by decide +kernel)
set_option maxRecDepth 20000 in
theorem gX0_addApproval_X0_settle : GoodIn wsX0_addApproval (wsV RX0 138 RX0 yX0_settle wsX0_settle) := goodIn_app (goodIn_of _ (by decide +kernel)) ggX0_addApproval_X0_settle
theorem dX0_addApproval_0 : decode cX0_addApproval 0 = .ok (.iload_n 2, 1) := by decide +kernel
theorem dX0_addApproval_1 : decode cX0_addApproval 1 = .ok (.ifCond .lt 22, 3) := by decide +kernel
theorem dX0_addApproval_4 : decode cX0_addApproval 4 = .ok (.iload_n 2, 1) := by decide +kernel
theorem dX0_addApproval_5 : decode cX0_addApproval 5 = .ok (.aload_n 0, 1) := by decide +kernel
theorem dX0_addApproval_6 : decode cX0_addApproval 6 = .ok (.getfield 27, 3) := by decide +kernel
theorem dX0_addApproval_9 : decode cX0_addApproval 9 = .ok (.arraylength, 1) := by decide +kernel
theorem dX0_addApproval_10 : decode cX0_addApproval 10 = .ok (.if_icmp .ge 13, 3) := by decide +kernel
theorem dX0_addApproval_13 : decode cX0_addApproval 13 = .ok (.aload_n 0, 1) := by decide +kernel
theorem dX0_addApproval_14 : decode cX0_addApproval 14 = .ok (.getfield 27, 3) := by decide +kernel
theorem dX0_addApproval_17 : decode cX0_addApproval 17 = .ok (.iload_n 2, 1) := by decide +kernel
theorem dX0_addApproval_18 : decode cX0_addApproval 18 = .ok (.dup2, 1) := by decide +kernel
theorem dX0_addApproval_19 : decode cX0_addApproval 19 = .ok (.iaload, 1) := by decide +kernel
theorem dX0_addApproval_20 : decode cX0_addApproval 20 = .ok (.iconst 1, 1) := by decide +kernel
theorem dX0_addApproval_21 : decode cX0_addApproval 21 = .ok (.iadd, 1) := by decide +kernel
theorem dX0_addApproval_22 : decode cX0_addApproval 22 = .ok (.iastore, 1) := by decide +kernel
theorem dX0_addApproval_23 : decode cX0_addApproval 23 = .ok (.aload_n 0, 1) := by decide +kernel
theorem dX0_addApproval_24 : decode cX0_addApproval 24 = .ok (.getfield 23, 3) := by decide +kernel
theorem dX0_addApproval_27 : decode cX0_addApproval 27 = .ok (.iload_n 1, 1) := by decide +kernel
theorem dX0_addApproval_28 : decode cX0_addApproval 28 = .ok (.iconst 5, 1) := by decide +kernel
theorem dX0_addApproval_29 : decode cX0_addApproval 29 = .ok (.invokevirtual 94, 3) := by decide +kernel
theorem dX0_addApproval_32 : decode cX0_addApproval 32 = .ok (.iconst 1, 1) := by decide +kernel
theorem dX0_addApproval_33 : decode cX0_addApproval 33 = .ok (.iload_n 2, 1) := by decide +kernel
theorem dX0_addApproval_34 : decode cX0_addApproval 34 = .ok (.ishl, 1) := by decide +kernel
theorem dX0_addApproval_35 : decode cX0_addApproval 35 = .ok (.ior, 1) := by decide +kernel
theorem dX0_addApproval_36 : decode cX0_addApproval 36 = .ok (.istore_n 3, 1) := by decide +kernel
theorem dX0_addApproval_37 : decode cX0_addApproval 37 = .ok (.aload_n 0, 1) := by decide +kernel
theorem dX0_addApproval_38 : decode cX0_addApproval 38 = .ok (.getfield 23, 3) := by decide +kernel
theorem dX0_addApproval_41 : decode cX0_addApproval 41 = .ok (.iload_n 1, 1) := by decide +kernel
theorem dX0_addApproval_42 : decode cX0_addApproval 42 = .ok (.iconst 5, 1) := by decide +kernel
theorem dX0_addApproval_43 : decode cX0_addApproval 43 = .ok (.iload_n 3, 1) := by decide +kernel
theorem dX0_addApproval_44 : decode cX0_addApproval 44 = .ok (.invokevirtual 134, 3) := by decide +kernel
theorem dX0_addApproval_47 : decode cX0_addApproval 47 = .ok (.iload_n 3, 1) := by decide +kernel
theorem dX0_addApproval_48 : decode cX0_addApproval 48 = .ok (.invokestatic 106, 3) := by decide +kernel
theorem dX0_addApproval_51 : decode cX0_addApproval 51 = .ok (.aload_n 0, 1) := by decide +kernel
theorem dX0_addApproval_52 : decode cX0_addApproval 52 = .ok (.getfield 23, 3) := by decide +kernel
theorem dX0_addApproval_55 : decode cX0_addApproval 55 = .ok (.iload_n 1, 1) := by decide +kernel
theorem dX0_addApproval_56 : decode cX0_addApproval 56 = .ok (.iconst 4, 1) := by decide +kernel
theorem dX0_addApproval_57 : decode cX0_addApproval 57 = .ok (.invokevirtual 94, 3) := by decide +kernel
theorem dX0_addApproval_60 : decode cX0_addApproval 60 = .ok (.if_icmp .ge 5, 3) := by decide +kernel
theorem dX0_addApproval_63 : decode cX0_addApproval 63 = .ok (.iconst 0, 1) := by decide +kernel
theorem dX0_addApproval_64 : decode cX0_addApproval 64 = .ok (.ireturn, 1) := by decide +kernel
theorem dX0_addApproval_65 : decode cX0_addApproval 65 = .ok (.aload_n 0, 1) := by decide +kernel
theorem dX0_addApproval_66 : decode cX0_addApproval 66 = .ok (.iload_n 1, 1) := by decide +kernel
theorem dX0_addApproval_67 : decode cX0_addApproval 67 = .ok (.invokevirtual 138, 3) := by decide +kernel
theorem dX0_addApproval_70 : decode cX0_addApproval 70 = .ok (.ireturn, 1) := by decide +kernel
set_option maxRecDepth 20000 in
theorem ggX0_removeRequest_X3_get : GoodIn wsX0_removeRequest wsX3_get := goodIn_r _ [6, 7, 8, 9, 31, 32, 33, 34] (by decide +kernel) (by decide +kernel)
set_option maxRecDepth 20000 in
theorem gX0_removeRequest_X3_get : GoodIn wsX0_removeRequest (wsV RX0 94 RX3 yX3_get wsX3_get) := goodIn_app (goodIn_of _ (by decide +kernel)) ggX0_removeRequest_X3_get
set_option maxRecDepth 20000 in
theorem ggX0_removeRequest_X3_removeRow : GoodIn wsX0_removeRequest wsX3_removeRow := goodIn_r _ [13, 7, 8, 14, 3, 4, 5, 6, 9, 15, 16, 17, 18, 31, 32, 33, 34] (by decide +kernel) (by decide +kernel)
set_option maxRecDepth 20000 in
theorem gX0_removeRequest_X3_removeRow : GoodIn wsX0_removeRequest (wsV RX0 102 RX3 yX3_removeRow wsX3_removeRow) := goodIn_app (goodIn_of _ (by decide +kernel)) ggX0_removeRequest_X3_removeRow
theorem dX0_removeRequest_0 : decode cX0_removeRequest 0 = .ok (.aload_n 0, 1) := by decide +kernel
theorem dX0_removeRequest_1 : decode cX0_removeRequest 1 = .ok (.getfield 23, 3) := by decide +kernel
theorem dX0_removeRequest_4 : decode cX0_removeRequest 4 = .ok (.iload_n 1, 1) := by decide +kernel
theorem dX0_removeRequest_5 : decode cX0_removeRequest 5 = .ok (.iconst 1, 1) := by decide +kernel
theorem dX0_removeRequest_6 : decode cX0_removeRequest 6 = .ok (.invokevirtual 94, 3) := by decide +kernel
theorem dX0_removeRequest_9 : decode cX0_removeRequest 9 = .ok (.istore_n 2, 1) := by decide +kernel
theorem dX0_removeRequest_10 : decode cX0_removeRequest 10 = .ok (.aload_n 0, 1) := by decide +kernel
theorem dX0_removeRequest_11 : decode cX0_removeRequest 11 = .ok (.getfield 23, 3) := by decide +kernel
theorem dX0_removeRequest_14 : decode cX0_removeRequest 14 = .ok (.iload_n 1, 1) := by decide +kernel
theorem dX0_removeRequest_15 : decode cX0_removeRequest 15 = .ok (.invokevirtual 102, 3) := by decide +kernel
theorem dX0_removeRequest_18 : decode cX0_removeRequest 18 = .ok (.iload_n 2, 1) := by decide +kernel
theorem dX0_removeRequest_19 : decode cX0_removeRequest 19 = .ok (.ireturn, 1) := by decide +kernel
set_option maxRecDepth 20000 in
theorem ggX0_nextDay_X2_clearSums : GoodIn wsX0_nextDay wsX2_clearSums := goodIn_r _ [10, 11, 12, 13, 14, 9, 15, 16, 17, 18, 19, 20, 21, 22, 23, 85, 86, 87, 88, 89] (by decide +kernel) (by decide +kernel)
set_option maxRecDepth 20000 in
theorem gX0_nextDay_X2_clearSums : GoodIn wsX0_nextDay (wsV RX0 141 RX2 yX2_clearSums wsX2_clearSums) := goodIn_app (goodIn_of _ (by decide +kernel)) ggX0_nextDay_X2_clearSums
set_option maxRecDepth 20000 in
theorem ggX0_nextDay_X0_firstLate : GoodIn wsX0_nextDay wsX0_firstLate := goodIn_r _ [28, 4, 1, 29, 30, 31, 32, 27, 33, 34, 35, 36, 19, 37, 21, 22, 23, 73, 74, 75, 76, 77, 78, 79, 80, 81, 82, 83, 84, 86, 87, 88, 89] (by decide +kernel) (by decide +kernel)
set_option maxRecDepth 20000 in
theorem gX0_nextDay_X0_firstLate : GoodIn wsX0_nextDay (wsV RX0 144 RX0 yX0_firstLate wsX0_firstLate) := goodIn_app (goodIn_of _ (by decide +kernel)) ggX0_nextDay_X0_firstLate
set_option maxRecDepth 20000 in
theorem ggX0_nextDay_X3_get : GoodIn wsX0_nextDay wsX3_get := goodIn_r _ [37, 21, 22, 23, 86, 87, 88, 89] (by decide +kernel) (by decide +kernel)
set_option maxRecDepth 20000 in
theorem gX0_nextDay_X3_get : GoodIn wsX0_nextDay (wsV RX0 94 RX3 yX3_get wsX3_get) := goodIn_app (goodIn_of _ (by decide +kernel)) ggX0_nextDay_X3_get
set_option maxRecDepth 20000 in
theorem ggX0_nextDay_X3_removeRow : GoodIn wsX0_nextDay wsX3_removeRow := goodIn_r _ [41, 21, 22, 42, 35, 36, 19, 37, 23, 43, 17, 18, 20, 86, 87, 88, 89] (by decide +kernel) (by decide +kernel)
set_option maxRecDepth 20000 in
theorem gX0_nextDay_X3_removeRow : GoodIn wsX0_nextDay (wsV RX0 102 RX3 yX3_removeRow wsX3_removeRow) := goodIn_app (goodIn_of _ (by decide +kernel)) ggX0_nextDay_X3_removeRow
set_option maxRecDepth 20000 in
theorem ggX0_nextDay_X0_lapse : GoodIn wsX0_nextDay wsX0_lapse := goodIn_r _ [47, 2, 1, 4, 48, 49, 50, 51, 9, 52, 11, 53, 54, 55, 56, 12, 13, 14, 15, 57, 35, 36, 19, 37, 21, 22, 23, 58, 59, 60, 61, 62, 63, 64, 16, 17, 18, 20, 30, 31, 32, 27, 33, 34, 65, 38, 39, 40, 41, 42, 43, 66, 67, 68, 69, 70, 71, 72, 73, 74, 75, 76, 77, 78, 79, 80, 81, 82, 83, 84, 86, 87, 88, 89, 85] (by decide +kernel) (by decide +kernel)
set_option maxRecDepth 20000 in
theorem gX0_nextDay_X0_lapse : GoodIn wsX0_nextDay (wsV RX0 148 RX0 yX0_lapse wsX0_lapse) := goodIn_app (goodIn_of _ (by decide +kernel)) ggX0_nextDay_X0_lapse
theorem dX0_nextDay_0 : decode cX0_nextDay 0 = .ok (.aload_n 0, 1) := by decide +kernel
theorem dX0_nextDay_1 : decode cX0_nextDay 1 = .ok (.dup, 1) := by decide +kernel
theorem dX0_nextDay_2 : decode cX0_nextDay 2 = .ok (.getfield 45, 3) := by decide +kernel
theorem dX0_nextDay_5 : decode cX0_nextDay 5 = .ok (.iconst 1, 1) := by decide +kernel
theorem dX0_nextDay_6 : decode cX0_nextDay 6 = .ok (.iadd, 1) := by decide +kernel
theorem dX0_nextDay_7 : decode cX0_nextDay 7 = .ok (.putfield 45, 3) := by decide +kernel
theorem dX0_nextDay_10 : decode cX0_nextDay 10 = .ok (.aload_n 0, 1) := by decide +kernel
theorem dX0_nextDay_11 : decode cX0_nextDay 11 = .ok (.getfield 45, 3) := by decide +kernel
theorem dX0_nextDay_14 : decode cX0_nextDay 14 = .ok (.bipush 10, 2) := by decide +kernel
theorem dX0_nextDay_16 : decode cX0_nextDay 16 = .ok (.irem, 1) := by decide +kernel
theorem dX0_nextDay_17 : decode cX0_nextDay 17 = .ok (.ifCond .ne 15, 3) := by decide +kernel
theorem dX0_nextDay_20 : decode cX0_nextDay 20 = .ok (.aload_n 0, 1) := by decide +kernel
theorem dX0_nextDay_21 : decode cX0_nextDay 21 = .ok (.getfield 12, 3) := by decide +kernel
theorem dX0_nextDay_24 : decode cX0_nextDay 24 = .ok (.invokevirtual 141, 3) := by decide +kernel
theorem dX0_nextDay_27 : decode cX0_nextDay 27 = .ok (.aload_n 0, 1) := by decide +kernel
theorem dX0_nextDay_28 : decode cX0_nextDay 28 = .ok (.iconst 0, 1) := by decide +kernel
theorem dX0_nextDay_29 : decode cX0_nextDay 29 = .ok (.putfield 51, 3) := by decide +kernel
theorem dX0_nextDay_32 : decode cX0_nextDay 32 = .ok (.iconst 0, 1) := by decide +kernel
theorem dX0_nextDay_33 : decode cX0_nextDay 33 = .ok (.istore_n 1, 1) := by decide +kernel
theorem dX0_nextDay_34 : decode cX0_nextDay 34 = .ok (.iconst 0, 1) := by decide +kernel
theorem dX0_nextDay_35 : decode cX0_nextDay 35 = .ok (.istore_n 2, 1) := by decide +kernel
theorem dX0_nextDay_36 : decode cX0_nextDay 36 = .ok (.iload_n 2, 1) := by decide +kernel
theorem dX0_nextDay_37 : decode cX0_nextDay 37 = .ok (.bipush 6, 2) := by decide +kernel
theorem dX0_nextDay_39 : decode cX0_nextDay 39 = .ok (.if_icmp .ge 50, 3) := by decide +kernel
theorem dX0_nextDay_42 : decode cX0_nextDay 42 = .ok (.aload_n 0, 1) := by decide +kernel
theorem dX0_nextDay_43 : decode cX0_nextDay 43 = .ok (.invokevirtual 144, 3) := by decide +kernel
theorem dX0_nextDay_46 : decode cX0_nextDay 46 = .ok (.istore_n 3, 1) := by decide +kernel
theorem dX0_nextDay_47 : decode cX0_nextDay 47 = .ok (.iload_n 3, 1) := by decide +kernel
theorem dX0_nextDay_48 : decode cX0_nextDay 48 = .ok (.iconst (-1), 1) := by decide +kernel
theorem dX0_nextDay_49 : decode cX0_nextDay 49 = .ok (.if_icmp .ne 6, 3) := by decide +kernel
theorem dX0_nextDay_52 : decode cX0_nextDay 52 = .ok (.goto 37, 3) := by decide +kernel
theorem dX0_nextDay_55 : decode cX0_nextDay 55 = .ok (.aload_n 0, 1) := by decide +kernel
theorem dX0_nextDay_56 : decode cX0_nextDay 56 = .ok (.getfield 23, 3) := by decide +kernel
theorem dX0_nextDay_59 : decode cX0_nextDay 59 = .ok (.iload_n 3, 1) := by decide +kernel
theorem dX0_nextDay_60 : decode cX0_nextDay 60 = .ok (.iconst 0, 1) := by decide +kernel
theorem dX0_nextDay_61 : decode cX0_nextDay 61 = .ok (.invokevirtual 94, 3) := by decide +kernel
theorem dX0_nextDay_64 : decode cX0_nextDay 64 = .ok (.istore 4, 2) := by decide +kernel
theorem dX0_nextDay_66 : decode cX0_nextDay 66 = .ok (.aload_n 0, 1) := by decide +kernel
theorem dX0_nextDay_67 : decode cX0_nextDay 67 = .ok (.getfield 23, 3) := by decide +kernel
theorem dX0_nextDay_70 : decode cX0_nextDay 70 = .ok (.iload_n 3, 1) := by decide +kernel
theorem dX0_nextDay_71 : decode cX0_nextDay 71 = .ok (.invokevirtual 102, 3) := by decide +kernel
theorem dX0_nextDay_74 : decode cX0_nextDay 74 = .ok (.iload_n 1, 1) := by decide +kernel
theorem dX0_nextDay_75 : decode cX0_nextDay 75 = .ok (.aload_n 0, 1) := by decide +kernel
theorem dX0_nextDay_76 : decode cX0_nextDay 76 = .ok (.iload 4, 2) := by decide +kernel
theorem dX0_nextDay_78 : decode cX0_nextDay 78 = .ok (.invokevirtual 148, 3) := by decide +kernel
theorem dX0_nextDay_81 : decode cX0_nextDay 81 = .ok (.iadd, 1) := by decide +kernel
theorem dX0_nextDay_82 : decode cX0_nextDay 82 = .ok (.istore_n 1, 1) := by decide +kernel
theorem dX0_nextDay_83 : decode cX0_nextDay 83 = .ok (.iinc 2 1, 3) := by decide +kernel
theorem dX0_nextDay_86 : decode cX0_nextDay 86 = .ok (.goto (-50), 3) := by decide +kernel
theorem dX0_nextDay_89 : decode cX0_nextDay 89 = .ok (.aload_n 0, 1) := by decide +kernel
theorem dX0_nextDay_90 : decode cX0_nextDay 90 = .ok (.dup, 1) := by decide +kernel
theorem dX0_nextDay_91 : decode cX0_nextDay 91 = .ok (.getfield 63, 3) := by decide +kernel
theorem dX0_nextDay_94 : decode cX0_nextDay 94 = .ok (.iload_n 1, 1) := by decide +kernel
theorem dX0_nextDay_95 : decode cX0_nextDay 95 = .ok (.iadd, 1) := by decide +kernel
theorem dX0_nextDay_96 : decode cX0_nextDay 96 = .ok (.putfield 63, 3) := by decide +kernel
theorem dX0_nextDay_99 : decode cX0_nextDay 99 = .ok (.iload_n 1, 1) := by decide +kernel
theorem dX0_nextDay_100 : decode cX0_nextDay 100 = .ok (.ireturn, 1) := by decide +kernel
set_option maxRecDepth 20000 in
theorem ggX0_changeSetting_X0_settingValue : GoodIn wsX0_changeSetting wsX0_settingValue := goodIn_r _ [7, 1, 2, 8, 9, 10, 11, 12, 13, 14, 15, 16, 17, 18, 19] (by decide +kernel) (by decide +kernel)
set_option maxRecDepth 20000 in
theorem gX0_changeSetting_X0_settingValue : GoodIn wsX0_changeSetting (wsV RX0 151 RX0 yX0_settingValue wsX0_settingValue) := goodIn_app (goodIn_of _ (by decide +kernel)) ggX0_changeSetting_X0_settingValue
theorem dX0_changeSetting_0 : decode cX0_changeSetting 0 = .ok (.aload_n 0, 1) := by decide +kernel
theorem dX0_changeSetting_1 : decode cX0_changeSetting 1 = .ok (.iload_n 1, 1) := by decide +kernel
theorem dX0_changeSetting_2 : decode cX0_changeSetting 2 = .ok (.invokevirtual 151, 3) := by decide +kernel
theorem dX0_changeSetting_5 : decode cX0_changeSetting 5 = .ok (.istore_n 3, 1) := by decide +kernel
theorem dX0_changeSetting_6 : decode cX0_changeSetting 6 = .ok (.iload_n 1, 1) := by decide +kernel
theorem dX0_changeSetting_7 : decode cX0_changeSetting 7 = .ok (.ifCond .ne 11, 3) := by decide +kernel
theorem dX0_changeSetting_10 : decode cX0_changeSetting 10 = .ok (.aload_n 0, 1) := by decide +kernel
theorem dX0_changeSetting_11 : decode cX0_changeSetting 11 = .ok (.iload_n 2, 1) := by decide +kernel
theorem dX0_changeSetting_12 : decode cX0_changeSetting 12 = .ok (.putfield 31, 3) := by decide +kernel
theorem dX0_changeSetting_15 : decode cX0_changeSetting 15 = .ok (.goto 8, 3) := by decide +kernel
theorem dX0_changeSetting_18 : decode cX0_changeSetting 18 = .ok (.aload_n 0, 1) := by decide +kernel
theorem dX0_changeSetting_19 : decode cX0_changeSetting 19 = .ok (.iload_n 2, 1) := by decide +kernel
theorem dX0_changeSetting_20 : decode cX0_changeSetting 20 = .ok (.putfield 35, 3) := by decide +kernel
theorem dX0_changeSetting_23 : decode cX0_changeSetting 23 = .ok (.iload_n 3, 1) := by decide +kernel
theorem dX0_changeSetting_24 : decode cX0_changeSetting 24 = .ok (.ireturn, 1) := by decide +kernel
theorem dX0_settingValue_0 : decode cX0_settingValue 0 = .ok (.iload_n 1, 1) := by decide +kernel
theorem dX0_settingValue_1 : decode cX0_settingValue 1 = .ok (.ifCond .ne 10, 3) := by decide +kernel
theorem dX0_settingValue_4 : decode cX0_settingValue 4 = .ok (.aload_n 0, 1) := by decide +kernel
theorem dX0_settingValue_5 : decode cX0_settingValue 5 = .ok (.getfield 31, 3) := by decide +kernel
theorem dX0_settingValue_8 : decode cX0_settingValue 8 = .ok (.goto 7, 3) := by decide +kernel
theorem dX0_settingValue_11 : decode cX0_settingValue 11 = .ok (.aload_n 0, 1) := by decide +kernel
theorem dX0_settingValue_12 : decode cX0_settingValue 12 = .ok (.getfield 35, 3) := by decide +kernel
theorem dX0_settingValue_15 : decode cX0_settingValue 15 = .ok (.ireturn, 1) := by decide +kernel
set_option maxRecDepth 20000 in
theorem ggX0_mandateProperty_X2_get : GoodIn wsX0_mandateProperty wsX2_get := goodIn_r _ [6, 7, 8, 9, 10, 11, 12, 13, 14, 15, 74, 75, 76, 77, 78] (by decide +kernel) (by decide +kernel)
set_option maxRecDepth 20000 in
theorem gX0_mandateProperty_X2_get : GoodIn wsX0_mandateProperty (wsV RX0 117 RX2 yX2_get wsX2_get) := goodIn_app (goodIn_of _ (by decide +kernel)) ggX0_mandateProperty_X2_get
set_option maxRecDepth 20000 in
theorem ggX0_mandateProperty_X2_stands : GoodIn wsX0_mandateProperty wsX2_stands := goodIn_r _ [19, 7, 20, 21, 22, 5, 23, 8, 9, 10, 11, 12, 13, 14, 15, 74, 75, 76, 77, 78] (by decide +kernel) (by decide +kernel)
set_option maxRecDepth 20000 in
theorem gX0_mandateProperty_X2_stands : GoodIn wsX0_mandateProperty (wsV RX0 70 RX2 yX2_stands wsX2_stands) := goodIn_app (goodIn_of _ (by decide +kernel)) ggX0_mandateProperty_X2_stands
set_option maxRecDepth 20000 in
theorem ggX0_mandateProperty_X2_chainLength : GoodIn wsX0_mandateProperty wsX2_chainLength := goodIn_r _ [27, 28, 29, 30, 5, 31, 7, 8, 9, 10, 11, 12, 13, 14, 15, 32, 33, 34, 35, 36, 37, 38, 74, 75, 76, 77, 78] (by decide +kernel) (by decide +kernel)
set_option maxRecDepth 20000 in
theorem gX0_mandateProperty_X2_chainLength : GoodIn wsX0_mandateProperty (wsV RX0 78 RX2 yX2_chainLength wsX2_chainLength) := goodIn_app (goodIn_of _ (by decide +kernel)) ggX0_mandateProperty_X2_chainLength
set_option maxRecDepth 20000 in
theorem ggX0_mandateProperty_X2_standingUnder : GoodIn wsX0_mandateProperty wsX2_standingUnder := goodIn_r _ [42, 43, 44, 45, 46, 47, 48, 49, 5, 50, 7, 51, 17, 18, 19, 20, 21, 22, 23, 8, 9, 10, 11, 12, 13, 14, 15, 52, 53, 54, 32, 33, 34, 35, 36, 37, 38, 74, 75, 76, 77, 78] (by decide +kernel) (by decide +kernel)
set_option maxRecDepth 20000 in
theorem gX0_mandateProperty_X2_standingUnder : GoodIn wsX0_mandateProperty (wsV RX0 154 RX2 yX2_standingUnder wsX2_standingUnder) := goodIn_app (goodIn_of _ (by decide +kernel)) ggX0_mandateProperty_X2_standingUnder
set_option maxRecDepth 20000 in
theorem ggX0_mandateProperty_X0_waitingBy : GoodIn wsX0_mandateProperty wsX0_waitingBy := goodIn_r _ [59, 60, 61, 9, 10, 11, 12, 13, 14, 15, 62, 63, 64, 65, 66, 67, 68, 69, 70, 71, 72, 73, 75, 76, 77, 78] (by decide +kernel) (by decide +kernel)
set_option maxRecDepth 20000 in
theorem gX0_mandateProperty_X0_waitingBy : GoodIn wsX0_mandateProperty (wsV RX0 157 RX0 yX0_waitingBy wsX0_waitingBy) := goodIn_app (goodIn_of _ (by decide +kernel)) ggX0_mandateProperty_X0_waitingBy
theorem dX0_mandateProperty_0 : decode cX0_mandateProperty 0 = .ok (.iload_n 2, 1) := by decide +kernel
theorem dX0_mandateProperty_1 : decode cX0_mandateProperty 1 = .ok (.tableswitch 172 0 10 #[59, 69, 79, 89, 99, 109, 126, 137, 148, 157, 166], 59) := by decide +kernel
theorem dX0_mandateProperty_60 : decode cX0_mandateProperty 60 = .ok (.aload_n 0, 1) := by decide +kernel
theorem dX0_mandateProperty_61 : decode cX0_mandateProperty 61 = .ok (.getfield 12, 3) := by decide +kernel
theorem dX0_mandateProperty_64 : decode cX0_mandateProperty 64 = .ok (.iload_n 1, 1) := by decide +kernel
theorem dX0_mandateProperty_65 : decode cX0_mandateProperty 65 = .ok (.iconst 0, 1) := by decide +kernel
theorem dX0_mandateProperty_66 : decode cX0_mandateProperty 66 = .ok (.invokevirtual 117, 3) := by decide +kernel
theorem dX0_mandateProperty_69 : decode cX0_mandateProperty 69 = .ok (.ireturn, 1) := by decide +kernel
theorem dX0_mandateProperty_70 : decode cX0_mandateProperty 70 = .ok (.aload_n 0, 1) := by decide +kernel
theorem dX0_mandateProperty_71 : decode cX0_mandateProperty 71 = .ok (.getfield 12, 3) := by decide +kernel
theorem dX0_mandateProperty_74 : decode cX0_mandateProperty 74 = .ok (.iload_n 1, 1) := by decide +kernel
theorem dX0_mandateProperty_75 : decode cX0_mandateProperty 75 = .ok (.iconst 1, 1) := by decide +kernel
theorem dX0_mandateProperty_76 : decode cX0_mandateProperty 76 = .ok (.invokevirtual 117, 3) := by decide +kernel
theorem dX0_mandateProperty_79 : decode cX0_mandateProperty 79 = .ok (.ireturn, 1) := by decide +kernel
theorem dX0_mandateProperty_80 : decode cX0_mandateProperty 80 = .ok (.aload_n 0, 1) := by decide +kernel
theorem dX0_mandateProperty_81 : decode cX0_mandateProperty 81 = .ok (.getfield 12, 3) := by decide +kernel
theorem dX0_mandateProperty_84 : decode cX0_mandateProperty 84 = .ok (.iload_n 1, 1) := by decide +kernel
theorem dX0_mandateProperty_85 : decode cX0_mandateProperty 85 = .ok (.iconst 2, 1) := by decide +kernel
theorem dX0_mandateProperty_86 : decode cX0_mandateProperty 86 = .ok (.invokevirtual 117, 3) := by decide +kernel
theorem dX0_mandateProperty_89 : decode cX0_mandateProperty 89 = .ok (.ireturn, 1) := by decide +kernel
theorem dX0_mandateProperty_90 : decode cX0_mandateProperty 90 = .ok (.aload_n 0, 1) := by decide +kernel
theorem dX0_mandateProperty_91 : decode cX0_mandateProperty 91 = .ok (.getfield 12, 3) := by decide +kernel
theorem dX0_mandateProperty_94 : decode cX0_mandateProperty 94 = .ok (.iload_n 1, 1) := by decide +kernel
theorem dX0_mandateProperty_95 : decode cX0_mandateProperty 95 = .ok (.iconst 3, 1) := by decide +kernel
theorem dX0_mandateProperty_96 : decode cX0_mandateProperty 96 = .ok (.invokevirtual 117, 3) := by decide +kernel
theorem dX0_mandateProperty_99 : decode cX0_mandateProperty 99 = .ok (.ireturn, 1) := by decide +kernel
theorem dX0_mandateProperty_100 : decode cX0_mandateProperty 100 = .ok (.aload_n 0, 1) := by decide +kernel
theorem dX0_mandateProperty_101 : decode cX0_mandateProperty 101 = .ok (.getfield 12, 3) := by decide +kernel
theorem dX0_mandateProperty_104 : decode cX0_mandateProperty 104 = .ok (.iload_n 1, 1) := by decide +kernel
theorem dX0_mandateProperty_105 : decode cX0_mandateProperty 105 = .ok (.iconst 4, 1) := by decide +kernel
theorem dX0_mandateProperty_106 : decode cX0_mandateProperty 106 = .ok (.invokevirtual 117, 3) := by decide +kernel
theorem dX0_mandateProperty_109 : decode cX0_mandateProperty 109 = .ok (.ireturn, 1) := by decide +kernel
theorem dX0_mandateProperty_110 : decode cX0_mandateProperty 110 = .ok (.aload_n 0, 1) := by decide +kernel
theorem dX0_mandateProperty_111 : decode cX0_mandateProperty 111 = .ok (.getfield 12, 3) := by decide +kernel
theorem dX0_mandateProperty_114 : decode cX0_mandateProperty 114 = .ok (.iload_n 1, 1) := by decide +kernel
theorem dX0_mandateProperty_115 : decode cX0_mandateProperty 115 = .ok (.invokevirtual 70, 3) := by decide +kernel
theorem dX0_mandateProperty_118 : decode cX0_mandateProperty 118 = .ok (.ifCond .eq 7, 3) := by decide +kernel
theorem dX0_mandateProperty_121 : decode cX0_mandateProperty 121 = .ok (.iconst 1, 1) := by decide +kernel
theorem dX0_mandateProperty_122 : decode cX0_mandateProperty 122 = .ok (.goto 4, 3) := by decide +kernel
theorem dX0_mandateProperty_125 : decode cX0_mandateProperty 125 = .ok (.iconst 0, 1) := by decide +kernel
theorem dX0_mandateProperty_126 : decode cX0_mandateProperty 126 = .ok (.ireturn, 1) := by decide +kernel
theorem dX0_mandateProperty_127 : decode cX0_mandateProperty 127 = .ok (.aload_n 0, 1) := by decide +kernel
theorem dX0_mandateProperty_128 : decode cX0_mandateProperty 128 = .ok (.getfield 12, 3) := by decide +kernel
theorem dX0_mandateProperty_131 : decode cX0_mandateProperty 131 = .ok (.iload_n 1, 1) := by decide +kernel
theorem dX0_mandateProperty_132 : decode cX0_mandateProperty 132 = .ok (.bipush 6, 2) := by decide +kernel
theorem dX0_mandateProperty_134 : decode cX0_mandateProperty 134 = .ok (.invokevirtual 117, 3) := by decide +kernel
theorem dX0_mandateProperty_137 : decode cX0_mandateProperty 137 = .ok (.ireturn, 1) := by decide +kernel
theorem dX0_mandateProperty_138 : decode cX0_mandateProperty 138 = .ok (.aload_n 0, 1) := by decide +kernel
theorem dX0_mandateProperty_139 : decode cX0_mandateProperty 139 = .ok (.getfield 12, 3) := by decide +kernel
theorem dX0_mandateProperty_142 : decode cX0_mandateProperty 142 = .ok (.iload_n 1, 1) := by decide +kernel
theorem dX0_mandateProperty_143 : decode cX0_mandateProperty 143 = .ok (.bipush 7, 2) := by decide +kernel
theorem dX0_mandateProperty_145 : decode cX0_mandateProperty 145 = .ok (.invokevirtual 117, 3) := by decide +kernel
theorem dX0_mandateProperty_148 : decode cX0_mandateProperty 148 = .ok (.ireturn, 1) := by decide +kernel
theorem dX0_mandateProperty_149 : decode cX0_mandateProperty 149 = .ok (.aload_n 0, 1) := by decide +kernel
theorem dX0_mandateProperty_150 : decode cX0_mandateProperty 150 = .ok (.getfield 12, 3) := by decide +kernel
theorem dX0_mandateProperty_153 : decode cX0_mandateProperty 153 = .ok (.iload_n 1, 1) := by decide +kernel
theorem dX0_mandateProperty_154 : decode cX0_mandateProperty 154 = .ok (.invokevirtual 78, 3) := by decide +kernel
theorem dX0_mandateProperty_157 : decode cX0_mandateProperty 157 = .ok (.ireturn, 1) := by decide +kernel
theorem dX0_mandateProperty_158 : decode cX0_mandateProperty 158 = .ok (.aload_n 0, 1) := by decide +kernel
theorem dX0_mandateProperty_159 : decode cX0_mandateProperty 159 = .ok (.getfield 12, 3) := by decide +kernel
theorem dX0_mandateProperty_162 : decode cX0_mandateProperty 162 = .ok (.iload_n 1, 1) := by decide +kernel
theorem dX0_mandateProperty_163 : decode cX0_mandateProperty 163 = .ok (.invokevirtual 154, 3) := by decide +kernel
theorem dX0_mandateProperty_166 : decode cX0_mandateProperty 166 = .ok (.ireturn, 1) := by decide +kernel
theorem dX0_mandateProperty_167 : decode cX0_mandateProperty 167 = .ok (.aload_n 0, 1) := by decide +kernel
theorem dX0_mandateProperty_168 : decode cX0_mandateProperty 168 = .ok (.iload_n 1, 1) := by decide +kernel
theorem dX0_mandateProperty_169 : decode cX0_mandateProperty 169 = .ok (.invokevirtual 157, 3) := by decide +kernel
theorem dX0_mandateProperty_172 : decode cX0_mandateProperty 172 = .ok (.ireturn, 1) := by decide +kernel
theorem dX0_mandateProperty_173 : decode cX0_mandateProperty 173 = .ok (.aload_n 0, 1) := by decide +kernel
theorem dX0_mandateProperty_174 : decode cX0_mandateProperty 174 = .ok (.getfield 12, 3) := by decide +kernel
theorem dX0_mandateProperty_177 : decode cX0_mandateProperty 177 = .ok (.iload_n 1, 1) := by decide +kernel
theorem dX0_mandateProperty_178 : decode cX0_mandateProperty 178 = .ok (.iconst 5, 1) := by decide +kernel
theorem dX0_mandateProperty_179 : decode cX0_mandateProperty 179 = .ok (.invokevirtual 117, 3) := by decide +kernel
theorem dX0_mandateProperty_182 : decode cX0_mandateProperty 182 = .ok (.ireturn, 1) := by decide +kernel
set_option maxRecDepth 20000 in
theorem ggX0_requestProperty_X3_get : GoodIn wsX0_requestProperty wsX3_get := goodIn_r _ [6, 7, 8, 9, 35, 36, 37, 38] (by decide +kernel) (by decide +kernel)
set_option maxRecDepth 20000 in
theorem gX0_requestProperty_X3_get : GoodIn wsX0_requestProperty (wsV RX0 94 RX3 yX3_get wsX3_get) := goodIn_app (goodIn_of _ (by decide +kernel)) ggX0_requestProperty_X3_get
set_option maxRecDepth 20000 in
theorem ggX0_requestProperty_X0_couldApproveNow : GoodIn wsX0_requestProperty wsX0_couldApproveNow := goodIn_r _ [14, 15, 1, 2, 3, 4, 5, 6, 7, 8, 9, 16, 17, 18, 19, 20, 21, 22, 23, 24, 25, 26, 27, 28, 29, 30, 31, 32, 33, 34, 35, 36, 37, 38, 39] (by decide +kernel) (by decide +kernel)
set_option maxRecDepth 20000 in
theorem gX0_requestProperty_X0_couldApproveNow : GoodIn wsX0_requestProperty (wsV RX0 128 RX0 yX0_couldApproveNow wsX0_couldApproveNow) := goodIn_app (goodIn_of _ (by decide +kernel)) ggX0_requestProperty_X0_couldApproveNow
theorem dX0_requestProperty_0 : decode cX0_requestProperty 0 = .ok (.iload_n 2, 1) := by decide +kernel
theorem dX0_requestProperty_1 : decode cX0_requestProperty 1 = .ok (.tableswitch 99 0 5 #[39, 49, 59, 69, 79, 89], 39) := by decide +kernel
theorem dX0_requestProperty_40 : decode cX0_requestProperty 40 = .ok (.aload_n 0, 1) := by decide +kernel
theorem dX0_requestProperty_41 : decode cX0_requestProperty 41 = .ok (.getfield 23, 3) := by decide +kernel
theorem dX0_requestProperty_44 : decode cX0_requestProperty 44 = .ok (.iload_n 1, 1) := by decide +kernel
theorem dX0_requestProperty_45 : decode cX0_requestProperty 45 = .ok (.iconst 0, 1) := by decide +kernel
theorem dX0_requestProperty_46 : decode cX0_requestProperty 46 = .ok (.invokevirtual 94, 3) := by decide +kernel
theorem dX0_requestProperty_49 : decode cX0_requestProperty 49 = .ok (.ireturn, 1) := by decide +kernel
theorem dX0_requestProperty_50 : decode cX0_requestProperty 50 = .ok (.aload_n 0, 1) := by decide +kernel
theorem dX0_requestProperty_51 : decode cX0_requestProperty 51 = .ok (.getfield 23, 3) := by decide +kernel
theorem dX0_requestProperty_54 : decode cX0_requestProperty 54 = .ok (.iload_n 1, 1) := by decide +kernel
theorem dX0_requestProperty_55 : decode cX0_requestProperty 55 = .ok (.iconst 1, 1) := by decide +kernel
theorem dX0_requestProperty_56 : decode cX0_requestProperty 56 = .ok (.invokevirtual 94, 3) := by decide +kernel
theorem dX0_requestProperty_59 : decode cX0_requestProperty 59 = .ok (.ireturn, 1) := by decide +kernel
theorem dX0_requestProperty_60 : decode cX0_requestProperty 60 = .ok (.aload_n 0, 1) := by decide +kernel
theorem dX0_requestProperty_61 : decode cX0_requestProperty 61 = .ok (.getfield 23, 3) := by decide +kernel
theorem dX0_requestProperty_64 : decode cX0_requestProperty 64 = .ok (.iload_n 1, 1) := by decide +kernel
theorem dX0_requestProperty_65 : decode cX0_requestProperty 65 = .ok (.iconst 2, 1) := by decide +kernel
theorem dX0_requestProperty_66 : decode cX0_requestProperty 66 = .ok (.invokevirtual 94, 3) := by decide +kernel
theorem dX0_requestProperty_69 : decode cX0_requestProperty 69 = .ok (.ireturn, 1) := by decide +kernel
theorem dX0_requestProperty_70 : decode cX0_requestProperty 70 = .ok (.aload_n 0, 1) := by decide +kernel
theorem dX0_requestProperty_71 : decode cX0_requestProperty 71 = .ok (.getfield 23, 3) := by decide +kernel
theorem dX0_requestProperty_74 : decode cX0_requestProperty 74 = .ok (.iload_n 1, 1) := by decide +kernel
theorem dX0_requestProperty_75 : decode cX0_requestProperty 75 = .ok (.iconst 3, 1) := by decide +kernel
theorem dX0_requestProperty_76 : decode cX0_requestProperty 76 = .ok (.invokevirtual 94, 3) := by decide +kernel
theorem dX0_requestProperty_79 : decode cX0_requestProperty 79 = .ok (.ireturn, 1) := by decide +kernel
theorem dX0_requestProperty_80 : decode cX0_requestProperty 80 = .ok (.aload_n 0, 1) := by decide +kernel
theorem dX0_requestProperty_81 : decode cX0_requestProperty 81 = .ok (.getfield 23, 3) := by decide +kernel
theorem dX0_requestProperty_84 : decode cX0_requestProperty 84 = .ok (.iload_n 1, 1) := by decide +kernel
theorem dX0_requestProperty_85 : decode cX0_requestProperty 85 = .ok (.iconst 4, 1) := by decide +kernel
theorem dX0_requestProperty_86 : decode cX0_requestProperty 86 = .ok (.invokevirtual 94, 3) := by decide +kernel
theorem dX0_requestProperty_89 : decode cX0_requestProperty 89 = .ok (.ireturn, 1) := by decide +kernel
theorem dX0_requestProperty_90 : decode cX0_requestProperty 90 = .ok (.aload_n 0, 1) := by decide +kernel
theorem dX0_requestProperty_91 : decode cX0_requestProperty 91 = .ok (.getfield 23, 3) := by decide +kernel
theorem dX0_requestProperty_94 : decode cX0_requestProperty 94 = .ok (.iload_n 1, 1) := by decide +kernel
theorem dX0_requestProperty_95 : decode cX0_requestProperty 95 = .ok (.iconst 5, 1) := by decide +kernel
theorem dX0_requestProperty_96 : decode cX0_requestProperty 96 = .ok (.invokevirtual 94, 3) := by decide +kernel
theorem dX0_requestProperty_99 : decode cX0_requestProperty 99 = .ok (.ireturn, 1) := by decide +kernel
theorem dX0_requestProperty_100 : decode cX0_requestProperty 100 = .ok (.aload_n 0, 1) := by decide +kernel
theorem dX0_requestProperty_101 : decode cX0_requestProperty 101 = .ok (.iload_n 1, 1) := by decide +kernel
theorem dX0_requestProperty_102 : decode cX0_requestProperty 102 = .ok (.invokevirtual 128, 3) := by decide +kernel
theorem dX0_requestProperty_105 : decode cX0_requestProperty 105 = .ok (.ireturn, 1) := by decide +kernel
set_option maxRecDepth 20000 in
theorem ggX0_personNumber_X2_standingHeldBy : GoodIn wsX0_personNumber wsX2_standingHeldBy := goodIn_r _ [7, 8, 9, 10, 11, 6, 12, 13, 14, 15, 16, 17, 18, 19, 20, 21, 22, 23, 24, 59, 60, 61, 62, 63] (by decide +kernel) (by decide +kernel)
set_option maxRecDepth 20000 in
theorem gX0_personNumber_X2_standingHeldBy : GoodIn wsX0_personNumber (wsV RX0 160 RX2 yX2_standingHeldBy wsX2_standingHeldBy) := goodIn_app (goodIn_of _ (by decide +kernel)) ggX0_personNumber_X2_standingHeldBy
set_option maxRecDepth 20000 in
theorem ggX0_personNumber_X2_spentByHolder : GoodIn wsX0_personNumber wsX2_spentByHolder := goodIn_r _ [28, 8, 9, 10, 11, 6, 12, 17, 18, 19, 20, 21, 22, 23, 24, 59, 60, 61, 62, 63] (by decide +kernel) (by decide +kernel)
set_option maxRecDepth 20000 in
theorem gX0_personNumber_X2_spentByHolder : GoodIn wsX0_personNumber (wsV RX0 163 RX2 yX2_spentByHolder wsX2_spentByHolder) := goodIn_app (goodIn_of _ (by decide +kernel)) ggX0_personNumber_X2_spentByHolder
set_option maxRecDepth 20000 in
theorem ggX0_personNumber_X0_approvableBy : GoodIn wsX0_personNumber wsX0_approvableBy := goodIn_r _ [33, 34, 35, 36, 37, 32, 38, 1, 39, 18, 19, 20, 21, 22, 23, 24, 40, 41, 42, 6, 43, 8, 17, 44, 45, 46, 47, 48, 49, 50, 51, 52, 53, 54, 55, 56, 57, 58, 60, 61, 62, 63, 59] (by decide +kernel) (by decide +kernel)
set_option maxRecDepth 20000 in
theorem gX0_personNumber_X0_approvableBy : GoodIn wsX0_personNumber (wsV RX0 166 RX0 yX0_approvableBy wsX0_approvableBy) := goodIn_app (goodIn_of _ (by decide +kernel)) ggX0_personNumber_X0_approvableBy
theorem dX0_personNumber_0 : decode cX0_personNumber 0 = .ok (.iload_n 2, 1) := by decide +kernel
theorem dX0_personNumber_1 : decode cX0_personNumber 1 = .ok (.tableswitch 69 0 2 #[27, 36, 45], 27) := by decide +kernel
theorem dX0_personNumber_28 : decode cX0_personNumber 28 = .ok (.aload_n 0, 1) := by decide +kernel
theorem dX0_personNumber_29 : decode cX0_personNumber 29 = .ok (.getfield 12, 3) := by decide +kernel
theorem dX0_personNumber_32 : decode cX0_personNumber 32 = .ok (.iload_n 1, 1) := by decide +kernel
theorem dX0_personNumber_33 : decode cX0_personNumber 33 = .ok (.invokevirtual 160, 3) := by decide +kernel
theorem dX0_personNumber_36 : decode cX0_personNumber 36 = .ok (.ireturn, 1) := by decide +kernel
theorem dX0_personNumber_37 : decode cX0_personNumber 37 = .ok (.aload_n 0, 1) := by decide +kernel
theorem dX0_personNumber_38 : decode cX0_personNumber 38 = .ok (.getfield 12, 3) := by decide +kernel
theorem dX0_personNumber_41 : decode cX0_personNumber 41 = .ok (.iload_n 1, 1) := by decide +kernel
theorem dX0_personNumber_42 : decode cX0_personNumber 42 = .ok (.invokevirtual 163, 3) := by decide +kernel
theorem dX0_personNumber_45 : decode cX0_personNumber 45 = .ok (.ireturn, 1) := by decide +kernel
theorem dX0_personNumber_46 : decode cX0_personNumber 46 = .ok (.iload_n 1, 1) := by decide +kernel
theorem dX0_personNumber_47 : decode cX0_personNumber 47 = .ok (.ifCond .lt 21, 3) := by decide +kernel
theorem dX0_personNumber_50 : decode cX0_personNumber 50 = .ok (.iload_n 1, 1) := by decide +kernel
theorem dX0_personNumber_51 : decode cX0_personNumber 51 = .ok (.aload_n 0, 1) := by decide +kernel
theorem dX0_personNumber_52 : decode cX0_personNumber 52 = .ok (.getfield 27, 3) := by decide +kernel
theorem dX0_personNumber_55 : decode cX0_personNumber 55 = .ok (.arraylength, 1) := by decide +kernel
theorem dX0_personNumber_56 : decode cX0_personNumber 56 = .ok (.if_icmp .ge 12, 3) := by decide +kernel
theorem dX0_personNumber_59 : decode cX0_personNumber 59 = .ok (.aload_n 0, 1) := by decide +kernel
theorem dX0_personNumber_60 : decode cX0_personNumber 60 = .ok (.getfield 27, 3) := by decide +kernel
theorem dX0_personNumber_63 : decode cX0_personNumber 63 = .ok (.iload_n 1, 1) := by decide +kernel
theorem dX0_personNumber_64 : decode cX0_personNumber 64 = .ok (.iaload, 1) := by decide +kernel
theorem dX0_personNumber_65 : decode cX0_personNumber 65 = .ok (.goto 4, 3) := by decide +kernel
theorem dX0_personNumber_68 : decode cX0_personNumber 68 = .ok (.iconst 0, 1) := by decide +kernel
theorem dX0_personNumber_69 : decode cX0_personNumber 69 = .ok (.ireturn, 1) := by decide +kernel
theorem dX0_personNumber_70 : decode cX0_personNumber 70 = .ok (.aload_n 0, 1) := by decide +kernel
theorem dX0_personNumber_71 : decode cX0_personNumber 71 = .ok (.iload_n 1, 1) := by decide +kernel
theorem dX0_personNumber_72 : decode cX0_personNumber 72 = .ok (.invokevirtual 166, 3) := by decide +kernel
theorem dX0_personNumber_75 : decode cX0_personNumber 75 = .ok (.ireturn, 1) := by decide +kernel
set_option maxRecDepth 20000 in
theorem ggX0_number_X2_total : GoodIn wsX0_number wsX2_total := goodIn_r _ [14, 15, 49, 45, 46, 47, 48] (by decide +kernel) (by decide +kernel)
set_option maxRecDepth 20000 in
theorem gX0_number_X2_total : GoodIn wsX0_number (wsV RX0 169 RX2 yX2_total wsX2_total) := goodIn_app (goodIn_of _ (by decide +kernel)) ggX0_number_X2_total
set_option maxRecDepth 20000 in
theorem ggX0_number_X2_standingTotal : GoodIn wsX0_number wsX2_standingTotal := goodIn_r _ [19, 20, 11, 12, 13, 14, 15, 21, 22, 23, 24, 25, 26, 27, 28, 29, 30, 31, 32, 49, 45, 46, 47, 48] (by decide +kernel) (by decide +kernel)
set_option maxRecDepth 20000 in
theorem gX0_number_X2_standingTotal : GoodIn wsX0_number (wsV RX0 172 RX2 yX2_standingTotal wsX2_standingTotal) := goodIn_app (goodIn_of _ (by decide +kernel)) ggX0_number_X2_standingTotal
theorem dX0_number_0 : decode cX0_number 0 = .ok (.iload_n 1, 1) := by decide +kernel
theorem dX0_number_1 : decode cX0_number 1 = .ok (.tableswitch 117 0 9 #[55, 63, 71, 79, 84, 92, 97, 102, 107, 112], 55) := by decide +kernel
theorem dX0_number_56 : decode cX0_number 56 = .ok (.aload_n 0, 1) := by decide +kernel
theorem dX0_number_57 : decode cX0_number 57 = .ok (.getfield 12, 3) := by decide +kernel
theorem dX0_number_60 : decode cX0_number 60 = .ok (.invokevirtual 169, 3) := by decide +kernel
theorem dX0_number_63 : decode cX0_number 63 = .ok (.ireturn, 1) := by decide +kernel
theorem dX0_number_64 : decode cX0_number 64 = .ok (.aload_n 0, 1) := by decide +kernel
theorem dX0_number_65 : decode cX0_number 65 = .ok (.getfield 12, 3) := by decide +kernel
theorem dX0_number_68 : decode cX0_number 68 = .ok (.invokevirtual 172, 3) := by decide +kernel
theorem dX0_number_71 : decode cX0_number 71 = .ok (.ireturn, 1) := by decide +kernel
theorem dX0_number_72 : decode cX0_number 72 = .ok (.aload_n 0, 1) := by decide +kernel
theorem dX0_number_73 : decode cX0_number 73 = .ok (.getfield 23, 3) := by decide +kernel
theorem dX0_number_76 : decode cX0_number 76 = .ok (.getfield 88, 3) := by decide +kernel
theorem dX0_number_79 : decode cX0_number 79 = .ok (.ireturn, 1) := by decide +kernel
theorem dX0_number_80 : decode cX0_number 80 = .ok (.aload_n 0, 1) := by decide +kernel
theorem dX0_number_81 : decode cX0_number 81 = .ok (.getfield 45, 3) := by decide +kernel
theorem dX0_number_84 : decode cX0_number 84 = .ok (.ireturn, 1) := by decide +kernel
theorem dX0_number_85 : decode cX0_number 85 = .ok (.aload_n 0, 1) := by decide +kernel
theorem dX0_number_86 : decode cX0_number 86 = .ok (.getfield 45, 3) := by decide +kernel
theorem dX0_number_89 : decode cX0_number 89 = .ok (.bipush 10, 2) := by decide +kernel
theorem dX0_number_91 : decode cX0_number 91 = .ok (.idiv, 1) := by decide +kernel
theorem dX0_number_92 : decode cX0_number 92 = .ok (.ireturn, 1) := by decide +kernel
theorem dX0_number_93 : decode cX0_number 93 = .ok (.aload_n 0, 1) := by decide +kernel
theorem dX0_number_94 : decode cX0_number 94 = .ok (.getfield 48, 3) := by decide +kernel
theorem dX0_number_97 : decode cX0_number 97 = .ok (.ireturn, 1) := by decide +kernel
theorem dX0_number_98 : decode cX0_number 98 = .ok (.aload_n 0, 1) := by decide +kernel
theorem dX0_number_99 : decode cX0_number 99 = .ok (.getfield 51, 3) := by decide +kernel
theorem dX0_number_102 : decode cX0_number 102 = .ok (.ireturn, 1) := by decide +kernel
theorem dX0_number_103 : decode cX0_number 103 = .ok (.aload_n 0, 1) := by decide +kernel
theorem dX0_number_104 : decode cX0_number 104 = .ok (.getfield 54, 3) := by decide +kernel
theorem dX0_number_107 : decode cX0_number 107 = .ok (.ireturn, 1) := by decide +kernel
theorem dX0_number_108 : decode cX0_number 108 = .ok (.aload_n 0, 1) := by decide +kernel
theorem dX0_number_109 : decode cX0_number 109 = .ok (.getfield 57, 3) := by decide +kernel
theorem dX0_number_112 : decode cX0_number 112 = .ok (.ireturn, 1) := by decide +kernel
theorem dX0_number_113 : decode cX0_number 113 = .ok (.aload_n 0, 1) := by decide +kernel
theorem dX0_number_114 : decode cX0_number 114 = .ok (.getfield 60, 3) := by decide +kernel
theorem dX0_number_117 : decode cX0_number 117 = .ok (.ireturn, 1) := by decide +kernel
theorem dX0_number_118 : decode cX0_number 118 = .ok (.aload_n 0, 1) := by decide +kernel
theorem dX0_number_119 : decode cX0_number 119 = .ok (.getfield 63, 3) := by decide +kernel
theorem dX0_number_122 : decode cX0_number 122 = .ok (.ireturn, 1) := by decide +kernel
set_option maxRecDepth 20000 in
theorem ggX0_daysUntilLapse_X2_stands : GoodIn wsX0_daysUntilLapse wsX2_stands := goodIn_r _ [11, 12, 13, 14, 15, 10, 16, 17, 18, 19, 20, 21, 22, 23, 24, 63, 59, 60, 61, 62] (by decide +kernel) (by decide +kernel)
set_option maxRecDepth 20000 in
theorem gX0_daysUntilLapse_X2_stands : GoodIn wsX0_daysUntilLapse (wsV RX0 70 RX2 yX2_stands wsX2_stands) := goodIn_app (goodIn_of _ (by decide +kernel)) ggX0_daysUntilLapse_X2_stands
set_option maxRecDepth 20000 in
theorem ggX0_daysUntilLapse_X2_chainOf : GoodIn wsX0_daysUntilLapse wsX2_chainOf := goodIn_r _ [28, 12, 17, 18, 19, 20, 21, 22, 23, 24, 63, 59, 60, 61, 62] (by decide +kernel) (by decide +kernel)
set_option maxRecDepth 20000 in
theorem gX0_daysUntilLapse_X2_chainOf : GoodIn wsX0_daysUntilLapse (wsV RX0 175 RX2 yX2_chainOf wsX2_chainOf) := goodIn_app (goodIn_of _ (by decide +kernel)) ggX0_daysUntilLapse_X2_chainOf
set_option maxRecDepth 20000 in
theorem ggX0_daysUntilLapse_X0_isUrgent : GoodIn wsX0_daysUntilLapse wsX0_isUrgent := goodIn_r _ [33, 2, 34, 18, 19, 20, 21, 22, 23, 24, 47, 48, 49, 50, 51, 52, 53, 54, 55, 56, 57, 58, 59, 60, 61, 62] (by decide +kernel) (by decide +kernel)
set_option maxRecDepth 20000 in
theorem gX0_daysUntilLapse_X0_isUrgent : GoodIn wsX0_daysUntilLapse (wsV RX0 91 RX0 yX0_isUrgent wsX0_isUrgent) := goodIn_app (goodIn_of _ (by decide +kernel)) ggX0_daysUntilLapse_X0_isUrgent
set_option maxRecDepth 20000 in
theorem ggX0_daysUntilLapse_X3_get : GoodIn wsX0_daysUntilLapse wsX3_get := goodIn_r _ [21, 22, 23, 24, 59, 60, 61, 62] (by decide +kernel) (by decide +kernel)
set_option maxRecDepth 20000 in
theorem gX0_daysUntilLapse_X3_get : GoodIn wsX0_daysUntilLapse (wsV RX0 94 RX3 yX3_get wsX3_get) := goodIn_app (goodIn_of _ (by decide +kernel)) ggX0_daysUntilLapse_X3_get
set_option maxRecDepth 20000 in
theorem ggX0_daysUntilLapse_X2_isIn : GoodIn wsX0_daysUntilLapse wsX2_isIn := goodIn_r _ [37] (by decide +kernel) (by decide +kernel)
set_option maxRecDepth 20000 in
theorem gX0_daysUntilLapse_X2_isIn : GoodIn wsX0_daysUntilLapse (va_wsS RX0 98 yX2_isIn wsX2_isIn) := goodIn_app (goodIn_of _ (by decide +kernel)) ggX0_daysUntilLapse_X2_isIn
set_option maxRecDepth 20000 in
theorem ggX0_daysUntilLapse_X0_daysUntilLate : GoodIn wsX0_daysUntilLapse wsX0_daysUntilLate := goodIn_r _ [41, 2, 42, 43, 44, 45, 5, 46, 34, 18, 19, 20, 21, 22, 23, 24, 47, 48, 49, 50, 51, 52, 53, 54, 55, 56, 57, 58, 59, 60, 61, 62] (by decide +kernel) (by decide +kernel)
set_option maxRecDepth 20000 in
theorem gX0_daysUntilLapse_X0_daysUntilLate : GoodIn wsX0_daysUntilLapse (wsV RX0 178 RX0 yX0_daysUntilLate wsX0_daysUntilLate) := goodIn_app (goodIn_of _ (by decide +kernel)) ggX0_daysUntilLapse_X0_daysUntilLate
theorem dX0_daysUntilLapse_0 : decode cX0_daysUntilLapse 0 = .ok (.aload_n 0, 1) := by decide +kernel
theorem dX0_daysUntilLapse_1 : decode cX0_daysUntilLapse 1 = .ok (.getfield 12, 3) := by decide +kernel
theorem dX0_daysUntilLapse_4 : decode cX0_daysUntilLapse 4 = .ok (.iload_n 1, 1) := by decide +kernel
theorem dX0_daysUntilLapse_5 : decode cX0_daysUntilLapse 5 = .ok (.invokevirtual 70, 3) := by decide +kernel
theorem dX0_daysUntilLapse_8 : decode cX0_daysUntilLapse 8 = .ok (.ifCond .ne 5, 3) := by decide +kernel
theorem dX0_daysUntilLapse_11 : decode cX0_daysUntilLapse 11 = .ok (.iconst (-1), 1) := by decide +kernel
theorem dX0_daysUntilLapse_12 : decode cX0_daysUntilLapse 12 = .ok (.ireturn, 1) := by decide +kernel
theorem dX0_daysUntilLapse_13 : decode cX0_daysUntilLapse 13 = .ok (.aload_n 0, 1) := by decide +kernel
theorem dX0_daysUntilLapse_14 : decode cX0_daysUntilLapse 14 = .ok (.getfield 12, 3) := by decide +kernel
theorem dX0_daysUntilLapse_17 : decode cX0_daysUntilLapse 17 = .ok (.iload_n 1, 1) := by decide +kernel
theorem dX0_daysUntilLapse_18 : decode cX0_daysUntilLapse 18 = .ok (.invokevirtual 175, 3) := by decide +kernel
theorem dX0_daysUntilLapse_21 : decode cX0_daysUntilLapse 21 = .ok (.istore_n 2, 1) := by decide +kernel
theorem dX0_daysUntilLapse_22 : decode cX0_daysUntilLapse 22 = .ok (.iconst (-1), 1) := by decide +kernel
theorem dX0_daysUntilLapse_23 : decode cX0_daysUntilLapse 23 = .ok (.istore_n 3, 1) := by decide +kernel
theorem dX0_daysUntilLapse_24 : decode cX0_daysUntilLapse 24 = .ok (.iconst 0, 1) := by decide +kernel
theorem dX0_daysUntilLapse_25 : decode cX0_daysUntilLapse 25 = .ok (.istore 4, 2) := by decide +kernel
theorem dX0_daysUntilLapse_27 : decode cX0_daysUntilLapse 27 = .ok (.iload 4, 2) := by decide +kernel
theorem dX0_daysUntilLapse_29 : decode cX0_daysUntilLapse 29 = .ok (.aload_n 0, 1) := by decide +kernel
theorem dX0_daysUntilLapse_30 : decode cX0_daysUntilLapse 30 = .ok (.getfield 23, 3) := by decide +kernel
theorem dX0_daysUntilLapse_33 : decode cX0_daysUntilLapse 33 = .ok (.getfield 88, 3) := by decide +kernel
theorem dX0_daysUntilLapse_36 : decode cX0_daysUntilLapse 36 = .ok (.if_icmp .ge 60, 3) := by decide +kernel
theorem dX0_daysUntilLapse_39 : decode cX0_daysUntilLapse 39 = .ok (.aload_n 0, 1) := by decide +kernel
theorem dX0_daysUntilLapse_40 : decode cX0_daysUntilLapse 40 = .ok (.iload 4, 2) := by decide +kernel
theorem dX0_daysUntilLapse_42 : decode cX0_daysUntilLapse 42 = .ok (.invokevirtual 91, 3) := by decide +kernel
theorem dX0_daysUntilLapse_45 : decode cX0_daysUntilLapse 45 = .ok (.ifCond .eq 45, 3) := by decide +kernel
theorem dX0_daysUntilLapse_48 : decode cX0_daysUntilLapse 48 = .ok (.iload_n 2, 1) := by decide +kernel
theorem dX0_daysUntilLapse_49 : decode cX0_daysUntilLapse 49 = .ok (.aload_n 0, 1) := by decide +kernel
theorem dX0_daysUntilLapse_50 : decode cX0_daysUntilLapse 50 = .ok (.getfield 23, 3) := by decide +kernel
theorem dX0_daysUntilLapse_53 : decode cX0_daysUntilLapse 53 = .ok (.iload 4, 2) := by decide +kernel
theorem dX0_daysUntilLapse_55 : decode cX0_daysUntilLapse 55 = .ok (.iconst 0, 1) := by decide +kernel
theorem dX0_daysUntilLapse_56 : decode cX0_daysUntilLapse 56 = .ok (.invokevirtual 94, 3) := by decide +kernel
theorem dX0_daysUntilLapse_59 : decode cX0_daysUntilLapse 59 = .ok (.invokestatic 98, 3) := by decide +kernel
theorem dX0_daysUntilLapse_62 : decode cX0_daysUntilLapse 62 = .ok (.ifCond .eq 28, 3) := by decide +kernel
theorem dX0_daysUntilLapse_65 : decode cX0_daysUntilLapse 65 = .ok (.aload_n 0, 1) := by decide +kernel
theorem dX0_daysUntilLapse_66 : decode cX0_daysUntilLapse 66 = .ok (.iload 4, 2) := by decide +kernel
theorem dX0_daysUntilLapse_68 : decode cX0_daysUntilLapse 68 = .ok (.invokevirtual 178, 3) := by decide +kernel
theorem dX0_daysUntilLapse_71 : decode cX0_daysUntilLapse 71 = .ok (.istore 5, 2) := by decide +kernel
theorem dX0_daysUntilLapse_73 : decode cX0_daysUntilLapse 73 = .ok (.iload_n 3, 1) := by decide +kernel
theorem dX0_daysUntilLapse_74 : decode cX0_daysUntilLapse 74 = .ok (.iconst (-1), 1) := by decide +kernel
theorem dX0_daysUntilLapse_75 : decode cX0_daysUntilLapse 75 = .ok (.if_icmp .ne 8, 3) := by decide +kernel
theorem dX0_daysUntilLapse_78 : decode cX0_daysUntilLapse 78 = .ok (.iload 5, 2) := by decide +kernel
theorem dX0_daysUntilLapse_80 : decode cX0_daysUntilLapse 80 = .ok (.goto 9, 3) := by decide +kernel
theorem dX0_daysUntilLapse_83 : decode cX0_daysUntilLapse 83 = .ok (.iload_n 3, 1) := by decide +kernel
theorem dX0_daysUntilLapse_84 : decode cX0_daysUntilLapse 84 = .ok (.iload 5, 2) := by decide +kernel
theorem dX0_daysUntilLapse_86 : decode cX0_daysUntilLapse 86 = .ok (.invokestatic 181, 3) := by decide +kernel
theorem dX0_daysUntilLapse_89 : decode cX0_daysUntilLapse 89 = .ok (.istore_n 3, 1) := by decide +kernel
theorem dX0_daysUntilLapse_90 : decode cX0_daysUntilLapse 90 = .ok (.iinc 4 1, 3) := by decide +kernel
theorem dX0_daysUntilLapse_93 : decode cX0_daysUntilLapse 93 = .ok (.goto (-66), 3) := by decide +kernel
theorem dX0_daysUntilLapse_96 : decode cX0_daysUntilLapse 96 = .ok (.iload_n 3, 1) := by decide +kernel
theorem dX0_daysUntilLapse_97 : decode cX0_daysUntilLapse 97 = .ok (.ireturn, 1) := by decide +kernel
set_option maxRecDepth 20000 in
theorem ggX0_daysUntilLate_X3_get : GoodIn wsX0_daysUntilLate wsX3_get := goodIn_r _ [12, 13, 14, 15, 28, 29, 30, 31] (by decide +kernel) (by decide +kernel)
set_option maxRecDepth 20000 in
theorem gX0_daysUntilLate_X3_get : GoodIn wsX0_daysUntilLate (wsV RX0 94 RX3 yX3_get wsX3_get) := goodIn_app (goodIn_of _ (by decide +kernel)) ggX0_daysUntilLate_X3_get
theorem dX0_daysUntilLate_0 : decode cX0_daysUntilLate 0 = .ok (.iconst 1, 1) := by decide +kernel
theorem dX0_daysUntilLate_1 : decode cX0_daysUntilLate 1 = .ok (.aload_n 0, 1) := by decide +kernel
theorem dX0_daysUntilLate_2 : decode cX0_daysUntilLate 2 = .ok (.getfield 23, 3) := by decide +kernel
theorem dX0_daysUntilLate_5 : decode cX0_daysUntilLate 5 = .ok (.iload_n 1, 1) := by decide +kernel
theorem dX0_daysUntilLate_6 : decode cX0_daysUntilLate 6 = .ok (.iconst 2, 1) := by decide +kernel
theorem dX0_daysUntilLate_7 : decode cX0_daysUntilLate 7 = .ok (.invokevirtual 94, 3) := by decide +kernel
theorem dX0_daysUntilLate_10 : decode cX0_daysUntilLate 10 = .ok (.aload_n 0, 1) := by decide +kernel
theorem dX0_daysUntilLate_11 : decode cX0_daysUntilLate 11 = .ok (.getfield 31, 3) := by decide +kernel
theorem dX0_daysUntilLate_14 : decode cX0_daysUntilLate 14 = .ok (.iadd, 1) := by decide +kernel
theorem dX0_daysUntilLate_15 : decode cX0_daysUntilLate 15 = .ok (.iconst 1, 1) := by decide +kernel
theorem dX0_daysUntilLate_16 : decode cX0_daysUntilLate 16 = .ok (.iadd, 1) := by decide +kernel
theorem dX0_daysUntilLate_17 : decode cX0_daysUntilLate 17 = .ok (.aload_n 0, 1) := by decide +kernel
theorem dX0_daysUntilLate_18 : decode cX0_daysUntilLate 18 = .ok (.getfield 45, 3) := by decide +kernel
theorem dX0_daysUntilLate_21 : decode cX0_daysUntilLate 21 = .ok (.isub, 1) := by decide +kernel
theorem dX0_daysUntilLate_22 : decode cX0_daysUntilLate 22 = .ok (.invokestatic 186, 3) := by decide +kernel
theorem dX0_daysUntilLate_25 : decode cX0_daysUntilLate 25 = .ok (.ireturn, 1) := by decide +kernel
set_option maxRecDepth 20000 in
theorem ggX0_firstLate_X0_isUrgent : GoodIn wsX0_firstLate wsX0_isUrgent := goodIn_r _ [8, 1, 9, 10, 11, 12, 13, 14, 15, 16, 17, 18, 19, 20, 21, 22, 23, 24, 25, 26, 27, 28, 29, 30, 31, 32] (by decide +kernel) (by decide +kernel)
set_option maxRecDepth 20000 in
theorem gX0_firstLate_X0_isUrgent : GoodIn wsX0_firstLate (wsV RX0 91 RX0 yX0_isUrgent wsX0_isUrgent) := goodIn_app (goodIn_of _ (by decide +kernel)) ggX0_firstLate_X0_isUrgent
set_option maxRecDepth 20000 in
theorem ggX0_firstLate_X3_get : GoodIn wsX0_firstLate wsX3_get := goodIn_r _ [13, 14, 15, 16, 29, 30, 31, 32] (by decide +kernel) (by decide +kernel)
set_option maxRecDepth 20000 in
theorem gX0_firstLate_X3_get : GoodIn wsX0_firstLate (wsV RX0 94 RX3 yX3_get wsX3_get) := goodIn_app (goodIn_of _ (by decide +kernel)) ggX0_firstLate_X3_get
theorem dX0_firstLate_0 : decode cX0_firstLate 0 = .ok (.iconst 0, 1) := by decide +kernel
theorem dX0_firstLate_1 : decode cX0_firstLate 1 = .ok (.istore_n 1, 1) := by decide +kernel
theorem dX0_firstLate_2 : decode cX0_firstLate 2 = .ok (.iload_n 1, 1) := by decide +kernel
theorem dX0_firstLate_3 : decode cX0_firstLate 3 = .ok (.aload_n 0, 1) := by decide +kernel
theorem dX0_firstLate_4 : decode cX0_firstLate 4 = .ok (.getfield 23, 3) := by decide +kernel
theorem dX0_firstLate_7 : decode cX0_firstLate 7 = .ok (.getfield 88, 3) := by decide +kernel
theorem dX0_firstLate_10 : decode cX0_firstLate 10 = .ok (.if_icmp .ge 40, 3) := by decide +kernel
theorem dX0_firstLate_13 : decode cX0_firstLate 13 = .ok (.aload_n 0, 1) := by decide +kernel
theorem dX0_firstLate_14 : decode cX0_firstLate 14 = .ok (.iload_n 1, 1) := by decide +kernel
theorem dX0_firstLate_15 : decode cX0_firstLate 15 = .ok (.invokevirtual 91, 3) := by decide +kernel
theorem dX0_firstLate_18 : decode cX0_firstLate 18 = .ok (.ifCond .eq 26, 3) := by decide +kernel
theorem dX0_firstLate_21 : decode cX0_firstLate 21 = .ok (.aload_n 0, 1) := by decide +kernel
theorem dX0_firstLate_22 : decode cX0_firstLate 22 = .ok (.getfield 45, 3) := by decide +kernel
theorem dX0_firstLate_25 : decode cX0_firstLate 25 = .ok (.aload_n 0, 1) := by decide +kernel
theorem dX0_firstLate_26 : decode cX0_firstLate 26 = .ok (.getfield 23, 3) := by decide +kernel
theorem dX0_firstLate_29 : decode cX0_firstLate 29 = .ok (.iload_n 1, 1) := by decide +kernel
theorem dX0_firstLate_30 : decode cX0_firstLate 30 = .ok (.iconst 2, 1) := by decide +kernel
theorem dX0_firstLate_31 : decode cX0_firstLate 31 = .ok (.invokevirtual 94, 3) := by decide +kernel
theorem dX0_firstLate_34 : decode cX0_firstLate 34 = .ok (.aload_n 0, 1) := by decide +kernel
theorem dX0_firstLate_35 : decode cX0_firstLate 35 = .ok (.getfield 31, 3) := by decide +kernel
theorem dX0_firstLate_38 : decode cX0_firstLate 38 = .ok (.iadd, 1) := by decide +kernel
theorem dX0_firstLate_39 : decode cX0_firstLate 39 = .ok (.if_icmp .le 5, 3) := by decide +kernel
theorem dX0_firstLate_42 : decode cX0_firstLate 42 = .ok (.iload_n 1, 1) := by decide +kernel
theorem dX0_firstLate_43 : decode cX0_firstLate 43 = .ok (.ireturn, 1) := by decide +kernel
theorem dX0_firstLate_44 : decode cX0_firstLate 44 = .ok (.iinc 1 1, 3) := by decide +kernel
theorem dX0_firstLate_47 : decode cX0_firstLate 47 = .ok (.goto (-45), 3) := by decide +kernel
theorem dX0_firstLate_50 : decode cX0_firstLate 50 = .ok (.iconst (-1), 1) := by decide +kernel
theorem dX0_firstLate_51 : decode cX0_firstLate 51 = .ok (.ireturn, 1) := by decide +kernel
set_option maxRecDepth 20000 in
theorem ggX0_makeSpending_X2_addSpending : GoodIn wsX0_makeSpending wsX2_addSpending := goodIn_r _ [9, 10, 11, 12, 13, 14, 15, 16, 17, 18, 19, 20, 21, 22, 35, 36, 37, 38, 39] (by decide +kernel) (by decide +kernel)
set_option maxRecDepth 20000 in
theorem gX0_makeSpending_X2_addSpending : GoodIn wsX0_makeSpending (wsV RX0 189 RX2 yX2_addSpending wsX2_addSpending) := goodIn_app (goodIn_of _ (by decide +kernel)) ggX0_makeSpending_X2_addSpending
theorem dX0_makeSpending_0 : decode cX0_makeSpending 0 = .ok (.aload_n 0, 1) := by decide +kernel
theorem dX0_makeSpending_1 : decode cX0_makeSpending 1 = .ok (.getfield 12, 3) := by decide +kernel
theorem dX0_makeSpending_4 : decode cX0_makeSpending 4 = .ok (.iload_n 1, 1) := by decide +kernel
theorem dX0_makeSpending_5 : decode cX0_makeSpending 5 = .ok (.iload_n 2, 1) := by decide +kernel
theorem dX0_makeSpending_6 : decode cX0_makeSpending 6 = .ok (.invokevirtual 189, 3) := by decide +kernel
theorem dX0_makeSpending_9 : decode cX0_makeSpending 9 = .ok (.aload_n 0, 1) := by decide +kernel
theorem dX0_makeSpending_10 : decode cX0_makeSpending 10 = .ok (.dup, 1) := by decide +kernel
theorem dX0_makeSpending_11 : decode cX0_makeSpending 11 = .ok (.getfield 48, 3) := by decide +kernel
theorem dX0_makeSpending_14 : decode cX0_makeSpending 14 = .ok (.iload_n 2, 1) := by decide +kernel
theorem dX0_makeSpending_15 : decode cX0_makeSpending 15 = .ok (.iadd, 1) := by decide +kernel
theorem dX0_makeSpending_16 : decode cX0_makeSpending 16 = .ok (.putfield 48, 3) := by decide +kernel
theorem dX0_makeSpending_19 : decode cX0_makeSpending 19 = .ok (.aload_n 0, 1) := by decide +kernel
theorem dX0_makeSpending_20 : decode cX0_makeSpending 20 = .ok (.dup, 1) := by decide +kernel
theorem dX0_makeSpending_21 : decode cX0_makeSpending 21 = .ok (.getfield 51, 3) := by decide +kernel
theorem dX0_makeSpending_24 : decode cX0_makeSpending 24 = .ok (.iload_n 2, 1) := by decide +kernel
theorem dX0_makeSpending_25 : decode cX0_makeSpending 25 = .ok (.iadd, 1) := by decide +kernel
theorem dX0_makeSpending_26 : decode cX0_makeSpending 26 = .ok (.putfield 51, 3) := by decide +kernel
theorem dX0_makeSpending_29 : decode cX0_makeSpending 29 = .ok (.aload_n 0, 1) := by decide +kernel
theorem dX0_makeSpending_30 : decode cX0_makeSpending 30 = .ok (.dup, 1) := by decide +kernel
theorem dX0_makeSpending_31 : decode cX0_makeSpending 31 = .ok (.getfield 54, 3) := by decide +kernel
theorem dX0_makeSpending_34 : decode cX0_makeSpending 34 = .ok (.iconst 1, 1) := by decide +kernel
theorem dX0_makeSpending_35 : decode cX0_makeSpending 35 = .ok (.iadd, 1) := by decide +kernel
theorem dX0_makeSpending_36 : decode cX0_makeSpending 36 = .ok (.putfield 54, 3) := by decide +kernel
theorem dX0_makeSpending_39 : decode cX0_makeSpending 39 = .ok (.return_, 1) := by decide +kernel
set_option maxRecDepth 20000 in
theorem ggX0_addRequest_X3_addRow : GoodIn wsX0_addRequest wsX3_addRow := goodIn_r _ [7, 8, 9, 10, 11, 12, 6, 13, 14, 15, 16, 17, 18, 19, 33, 34, 35, 36] (by decide +kernel) (by decide +kernel)
set_option maxRecDepth 20000 in
theorem gX0_addRequest_X3_addRow : GoodIn wsX0_addRequest (wsV RX0 192 RX3 yX3_addRow wsX3_addRow) := goodIn_app (goodIn_of _ (by decide +kernel)) ggX0_addRequest_X3_addRow
set_option maxRecDepth 20000 in
theorem ggX0_addRequest_X3_put : GoodIn wsX0_addRequest wsX3_put := goodIn_r _ [18, 8, 9, 19, 33, 34, 35, 36] (by decide +kernel) (by decide +kernel)
set_option maxRecDepth 20000 in
theorem gX0_addRequest_X3_put : GoodIn wsX0_addRequest (wsV RX0 134 RX3 yX3_put wsX3_put) := goodIn_app (goodIn_of _ (by decide +kernel)) ggX0_addRequest_X3_put
theorem dX0_addRequest_0 : decode cX0_addRequest 0 = .ok (.aload_n 0, 1) := by decide +kernel
theorem dX0_addRequest_1 : decode cX0_addRequest 1 = .ok (.getfield 23, 3) := by decide +kernel
theorem dX0_addRequest_4 : decode cX0_addRequest 4 = .ok (.invokevirtual 192, 3) := by decide +kernel
theorem dX0_addRequest_7 : decode cX0_addRequest 7 = .ok (.istore 5, 2) := by decide +kernel
theorem dX0_addRequest_9 : decode cX0_addRequest 9 = .ok (.aload_n 0, 1) := by decide +kernel
theorem dX0_addRequest_10 : decode cX0_addRequest 10 = .ok (.getfield 23, 3) := by decide +kernel
theorem dX0_addRequest_13 : decode cX0_addRequest 13 = .ok (.iload 5, 2) := by decide +kernel
theorem dX0_addRequest_15 : decode cX0_addRequest 15 = .ok (.iconst 0, 1) := by decide +kernel
theorem dX0_addRequest_16 : decode cX0_addRequest 16 = .ok (.iload_n 1, 1) := by decide +kernel
theorem dX0_addRequest_17 : decode cX0_addRequest 17 = .ok (.invokevirtual 134, 3) := by decide +kernel
theorem dX0_addRequest_20 : decode cX0_addRequest 20 = .ok (.aload_n 0, 1) := by decide +kernel
theorem dX0_addRequest_21 : decode cX0_addRequest 21 = .ok (.getfield 23, 3) := by decide +kernel
theorem dX0_addRequest_24 : decode cX0_addRequest 24 = .ok (.iload 5, 2) := by decide +kernel
theorem dX0_addRequest_26 : decode cX0_addRequest 26 = .ok (.iconst 1, 1) := by decide +kernel
theorem dX0_addRequest_27 : decode cX0_addRequest 27 = .ok (.iload_n 2, 1) := by decide +kernel
theorem dX0_addRequest_28 : decode cX0_addRequest 28 = .ok (.invokevirtual 134, 3) := by decide +kernel
theorem dX0_addRequest_31 : decode cX0_addRequest 31 = .ok (.aload_n 0, 1) := by decide +kernel
theorem dX0_addRequest_32 : decode cX0_addRequest 32 = .ok (.getfield 23, 3) := by decide +kernel
theorem dX0_addRequest_35 : decode cX0_addRequest 35 = .ok (.iload 5, 2) := by decide +kernel
theorem dX0_addRequest_37 : decode cX0_addRequest 37 = .ok (.iconst 2, 1) := by decide +kernel
theorem dX0_addRequest_38 : decode cX0_addRequest 38 = .ok (.aload_n 0, 1) := by decide +kernel
theorem dX0_addRequest_39 : decode cX0_addRequest 39 = .ok (.getfield 45, 3) := by decide +kernel
theorem dX0_addRequest_42 : decode cX0_addRequest 42 = .ok (.invokevirtual 134, 3) := by decide +kernel
theorem dX0_addRequest_45 : decode cX0_addRequest 45 = .ok (.aload_n 0, 1) := by decide +kernel
theorem dX0_addRequest_46 : decode cX0_addRequest 46 = .ok (.getfield 23, 3) := by decide +kernel
theorem dX0_addRequest_49 : decode cX0_addRequest 49 = .ok (.iload 5, 2) := by decide +kernel
theorem dX0_addRequest_51 : decode cX0_addRequest 51 = .ok (.iconst 3, 1) := by decide +kernel
theorem dX0_addRequest_52 : decode cX0_addRequest 52 = .ok (.iload_n 3, 1) := by decide +kernel
theorem dX0_addRequest_53 : decode cX0_addRequest 53 = .ok (.ifCond .eq 7, 3) := by decide +kernel
theorem dX0_addRequest_56 : decode cX0_addRequest 56 = .ok (.iconst 1, 1) := by decide +kernel
theorem dX0_addRequest_57 : decode cX0_addRequest 57 = .ok (.goto 4, 3) := by decide +kernel
theorem dX0_addRequest_60 : decode cX0_addRequest 60 = .ok (.iconst 0, 1) := by decide +kernel
theorem dX0_addRequest_61 : decode cX0_addRequest 61 = .ok (.invokevirtual 134, 3) := by decide +kernel
theorem dX0_addRequest_64 : decode cX0_addRequest 64 = .ok (.aload_n 0, 1) := by decide +kernel
theorem dX0_addRequest_65 : decode cX0_addRequest 65 = .ok (.getfield 23, 3) := by decide +kernel
theorem dX0_addRequest_68 : decode cX0_addRequest 68 = .ok (.iload 5, 2) := by decide +kernel
theorem dX0_addRequest_70 : decode cX0_addRequest 70 = .ok (.iconst 4, 1) := by decide +kernel
theorem dX0_addRequest_71 : decode cX0_addRequest 71 = .ok (.iload 4, 2) := by decide +kernel
theorem dX0_addRequest_73 : decode cX0_addRequest 73 = .ok (.invokevirtual 134, 3) := by decide +kernel
theorem dX0_addRequest_76 : decode cX0_addRequest 76 = .ok (.return_, 1) := by decide +kernel
set_option maxRecDepth 20000 in
theorem ggX0_settle_X0_isUrgent : GoodIn wsX0_settle wsX0_isUrgent := goodIn_r _ [8, 1, 9, 10, 11, 12, 13, 14, 15, 16, 65, 66, 67, 68, 69, 70, 71, 72, 73, 74, 75, 76, 77, 78, 79, 80] (by decide +kernel) (by decide +kernel)
set_option maxRecDepth 20000 in
theorem gX0_settle_X0_isUrgent : GoodIn wsX0_settle (wsV RX0 91 RX0 yX0_isUrgent wsX0_isUrgent) := goodIn_app (goodIn_of _ (by decide +kernel)) ggX0_settle_X0_isUrgent
set_option maxRecDepth 20000 in
theorem ggX0_settle_X3_get : GoodIn wsX0_settle wsX3_get := goodIn_r _ [13, 14, 15, 16, 77, 78, 79, 80] (by decide +kernel) (by decide +kernel)
set_option maxRecDepth 20000 in
theorem gX0_settle_X3_get : GoodIn wsX0_settle (wsV RX0 94 RX3 yX3_get wsX3_get) := goodIn_app (goodIn_of _ (by decide +kernel)) ggX0_settle_X3_get
set_option maxRecDepth 20000 in
theorem ggX0_settle_X0_removeRequest : GoodIn wsX0_settle wsX0_removeRequest := goodIn_r _ [20, 1, 9, 10, 11, 12, 13, 14, 15, 16, 21, 22, 23, 24, 25, 26, 27, 28, 29, 65, 66, 67, 68, 69, 70, 71, 72, 73, 74, 75, 76, 77, 78, 79, 80] (by decide +kernel) (by decide +kernel)
set_option maxRecDepth 20000 in
theorem gX0_settle_X0_removeRequest : GoodIn wsX0_settle (wsV RX0 195 RX0 yX0_removeRequest wsX0_removeRequest) := goodIn_app (goodIn_of _ (by decide +kernel)) ggX0_settle_X0_removeRequest
set_option maxRecDepth 20000 in
theorem ggX0_settle_X2_refusal : GoodIn wsX0_settle wsX2_refusal := goodIn_r _ [34, 35, 36, 37, 38, 33, 39, 40, 41, 42, 43, 44, 10, 11, 12, 13, 14, 15, 16, 45, 46, 47, 48, 49, 50, 51, 52, 81, 77, 78, 79, 80] (by decide +kernel) (by decide +kernel)
set_option maxRecDepth 20000 in
theorem gX0_settle_X2_refusal : GoodIn wsX0_settle (wsV RX0 111 RX2 yX2_refusal wsX2_refusal) := goodIn_app (goodIn_of _ (by decide +kernel)) ggX0_settle_X2_refusal
set_option maxRecDepth 20000 in
theorem ggX0_settle_X0_makeSpending : GoodIn wsX0_settle wsX0_makeSpending := goodIn_r _ [56, 2, 57, 58, 59, 60, 61, 62, 33, 63, 35, 44, 10, 11, 12, 13, 14, 15, 16, 64, 27, 28, 29, 65, 66, 67, 68, 69, 70, 71, 72, 73, 74, 75, 76, 81, 77, 78, 79, 80] (by decide +kernel) (by decide +kernel)
set_option maxRecDepth 20000 in
theorem gX0_settle_X0_makeSpending : GoodIn wsX0_settle (wsV RX0 118 RX0 yX0_makeSpending wsX0_makeSpending) := goodIn_app (goodIn_of _ (by decide +kernel)) ggX0_settle_X0_makeSpending
theorem dX0_settle_0 : decode cX0_settle 0 = .ok (.aload_n 0, 1) := by decide +kernel
theorem dX0_settle_1 : decode cX0_settle 1 = .ok (.iload_n 1, 1) := by decide +kernel
theorem dX0_settle_2 : decode cX0_settle 2 = .ok (.invokevirtual 91, 3) := by decide +kernel
theorem dX0_settle_5 : decode cX0_settle 5 = .ok (.istore_n 2, 1) := by decide +kernel
theorem dX0_settle_6 : decode cX0_settle 6 = .ok (.aload_n 0, 1) := by decide +kernel
theorem dX0_settle_7 : decode cX0_settle 7 = .ok (.getfield 23, 3) := by decide +kernel
theorem dX0_settle_10 : decode cX0_settle 10 = .ok (.iload_n 1, 1) := by decide +kernel
theorem dX0_settle_11 : decode cX0_settle 11 = .ok (.iconst 0, 1) := by decide +kernel
theorem dX0_settle_12 : decode cX0_settle 12 = .ok (.invokevirtual 94, 3) := by decide +kernel
theorem dX0_settle_15 : decode cX0_settle 15 = .ok (.istore_n 3, 1) := by decide +kernel
theorem dX0_settle_16 : decode cX0_settle 16 = .ok (.aload_n 0, 1) := by decide +kernel
theorem dX0_settle_17 : decode cX0_settle 17 = .ok (.iload_n 1, 1) := by decide +kernel
theorem dX0_settle_18 : decode cX0_settle 18 = .ok (.invokevirtual 195, 3) := by decide +kernel
theorem dX0_settle_21 : decode cX0_settle 21 = .ok (.istore 4, 2) := by decide +kernel
theorem dX0_settle_23 : decode cX0_settle 23 = .ok (.iload_n 2, 1) := by decide +kernel
theorem dX0_settle_24 : decode cX0_settle 24 = .ok (.ifCond .eq 5, 3) := by decide +kernel
theorem dX0_settle_27 : decode cX0_settle 27 = .ok (.iconst 1, 1) := by decide +kernel
theorem dX0_settle_28 : decode cX0_settle 28 = .ok (.ireturn, 1) := by decide +kernel
theorem dX0_settle_29 : decode cX0_settle 29 = .ok (.aload_n 0, 1) := by decide +kernel
theorem dX0_settle_30 : decode cX0_settle 30 = .ok (.getfield 12, 3) := by decide +kernel
theorem dX0_settle_33 : decode cX0_settle 33 = .ok (.iload_n 3, 1) := by decide +kernel
theorem dX0_settle_34 : decode cX0_settle 34 = .ok (.iload 4, 2) := by decide +kernel
theorem dX0_settle_36 : decode cX0_settle 36 = .ok (.invokevirtual 111, 3) := by decide +kernel
theorem dX0_settle_39 : decode cX0_settle 39 = .ok (.ifCond .eq 15, 3) := by decide +kernel
theorem dX0_settle_42 : decode cX0_settle 42 = .ok (.aload_n 0, 1) := by decide +kernel
theorem dX0_settle_43 : decode cX0_settle 43 = .ok (.dup, 1) := by decide +kernel
theorem dX0_settle_44 : decode cX0_settle 44 = .ok (.getfield 60, 3) := by decide +kernel
theorem dX0_settle_47 : decode cX0_settle 47 = .ok (.iconst 1, 1) := by decide +kernel
theorem dX0_settle_48 : decode cX0_settle 48 = .ok (.iadd, 1) := by decide +kernel
theorem dX0_settle_49 : decode cX0_settle 49 = .ok (.putfield 60, 3) := by decide +kernel
theorem dX0_settle_52 : decode cX0_settle 52 = .ok (.iconst 2, 1) := by decide +kernel
theorem dX0_settle_53 : decode cX0_settle 53 = .ok (.ireturn, 1) := by decide +kernel
theorem dX0_settle_54 : decode cX0_settle 54 = .ok (.aload_n 0, 1) := by decide +kernel
theorem dX0_settle_55 : decode cX0_settle 55 = .ok (.iload_n 3, 1) := by decide +kernel
theorem dX0_settle_56 : decode cX0_settle 56 = .ok (.iload 4, 2) := by decide +kernel
theorem dX0_settle_58 : decode cX0_settle 58 = .ok (.invokevirtual 118, 3) := by decide +kernel
theorem dX0_settle_61 : decode cX0_settle 61 = .ok (.iconst 1, 1) := by decide +kernel
theorem dX0_settle_62 : decode cX0_settle 62 = .ok (.ireturn, 1) := by decide +kernel
set_option maxRecDepth 20000 in
theorem ggX0_waitingBy_X3_get : GoodIn wsX0_waitingBy wsX3_get := goodIn_r _ [6, 7, 8, 9, 22, 23, 24, 25] (by decide +kernel) (by decide +kernel)
set_option maxRecDepth 20000 in
theorem gX0_waitingBy_X3_get : GoodIn wsX0_waitingBy (wsV RX0 94 RX3 yX3_get wsX3_get) := goodIn_app (goodIn_of _ (by decide +kernel)) ggX0_waitingBy_X3_get
theorem dX0_waitingBy_0 : decode cX0_waitingBy 0 = .ok (.iconst 0, 1) := by decide +kernel
theorem dX0_waitingBy_1 : decode cX0_waitingBy 1 = .ok (.istore_n 2, 1) := by decide +kernel
theorem dX0_waitingBy_2 : decode cX0_waitingBy 2 = .ok (.iconst 0, 1) := by decide +kernel
theorem dX0_waitingBy_3 : decode cX0_waitingBy 3 = .ok (.istore_n 3, 1) := by decide +kernel
theorem dX0_waitingBy_4 : decode cX0_waitingBy 4 = .ok (.iload_n 3, 1) := by decide +kernel
theorem dX0_waitingBy_5 : decode cX0_waitingBy 5 = .ok (.aload_n 0, 1) := by decide +kernel
theorem dX0_waitingBy_6 : decode cX0_waitingBy 6 = .ok (.getfield 23, 3) := by decide +kernel
theorem dX0_waitingBy_9 : decode cX0_waitingBy 9 = .ok (.getfield 88, 3) := by decide +kernel
theorem dX0_waitingBy_12 : decode cX0_waitingBy 12 = .ok (.if_icmp .ge 30, 3) := by decide +kernel
theorem dX0_waitingBy_15 : decode cX0_waitingBy 15 = .ok (.iload_n 2, 1) := by decide +kernel
theorem dX0_waitingBy_16 : decode cX0_waitingBy 16 = .ok (.aload_n 0, 1) := by decide +kernel
theorem dX0_waitingBy_17 : decode cX0_waitingBy 17 = .ok (.getfield 23, 3) := by decide +kernel
theorem dX0_waitingBy_20 : decode cX0_waitingBy 20 = .ok (.iload_n 3, 1) := by decide +kernel
theorem dX0_waitingBy_21 : decode cX0_waitingBy 21 = .ok (.iconst 0, 1) := by decide +kernel
theorem dX0_waitingBy_22 : decode cX0_waitingBy 22 = .ok (.invokevirtual 94, 3) := by decide +kernel
theorem dX0_waitingBy_25 : decode cX0_waitingBy 25 = .ok (.iload_n 1, 1) := by decide +kernel
theorem dX0_waitingBy_26 : decode cX0_waitingBy 26 = .ok (.if_icmp .ne 7, 3) := by decide +kernel
theorem dX0_waitingBy_29 : decode cX0_waitingBy 29 = .ok (.iconst 1, 1) := by decide +kernel
theorem dX0_waitingBy_30 : decode cX0_waitingBy 30 = .ok (.goto 4, 3) := by decide +kernel
theorem dX0_waitingBy_33 : decode cX0_waitingBy 33 = .ok (.iconst 0, 1) := by decide +kernel
theorem dX0_waitingBy_34 : decode cX0_waitingBy 34 = .ok (.iadd, 1) := by decide +kernel
theorem dX0_waitingBy_35 : decode cX0_waitingBy 35 = .ok (.istore_n 2, 1) := by decide +kernel
theorem dX0_waitingBy_36 : decode cX0_waitingBy 36 = .ok (.iinc 3 1, 3) := by decide +kernel
theorem dX0_waitingBy_39 : decode cX0_waitingBy 39 = .ok (.goto (-35), 3) := by decide +kernel
theorem dX0_waitingBy_42 : decode cX0_waitingBy 42 = .ok (.iload_n 2, 1) := by decide +kernel
theorem dX0_waitingBy_43 : decode cX0_waitingBy 43 = .ok (.ireturn, 1) := by decide +kernel
set_option maxRecDepth 20000 in
theorem ggX0_approvableBy_X0_couldApproveNow : GoodIn wsX0_approvableBy wsX0_couldApproveNow := goodIn_r _ [6, 7, 1, 8, 9, 10, 11, 12, 13, 14, 15, 16, 17, 18, 19, 20, 21, 22, 26, 27, 28, 29, 30, 31, 32, 33, 34, 35, 36, 37, 38, 39, 40, 41, 42] (by decide +kernel) (by decide +kernel)
set_option maxRecDepth 20000 in
theorem gX0_approvableBy_X0_couldApproveNow : GoodIn wsX0_approvableBy (wsV RX0 128 RX0 yX0_couldApproveNow wsX0_couldApproveNow) := goodIn_app (goodIn_of _ (by decide +kernel)) ggX0_approvableBy_X0_couldApproveNow
set_option maxRecDepth 20000 in
theorem ggX0_approvableBy_X0_isPersonIn : GoodIn wsX0_approvableBy wsX0_isPersonIn := goodIn_r _ [25] (by decide +kernel) (by decide +kernel)
set_option maxRecDepth 20000 in
theorem gX0_approvableBy_X0_isPersonIn : GoodIn wsX0_approvableBy (va_wsS RX0 131 yX0_isPersonIn wsX0_isPersonIn) := goodIn_app (goodIn_of _ (by decide +kernel)) ggX0_approvableBy_X0_isPersonIn
theorem dX0_approvableBy_0 : decode cX0_approvableBy 0 = .ok (.iconst 0, 1) := by decide +kernel
theorem dX0_approvableBy_1 : decode cX0_approvableBy 1 = .ok (.istore_n 2, 1) := by decide +kernel
theorem dX0_approvableBy_2 : decode cX0_approvableBy 2 = .ok (.iconst 0, 1) := by decide +kernel
theorem dX0_approvableBy_3 : decode cX0_approvableBy 3 = .ok (.istore_n 3, 1) := by decide +kernel
theorem dX0_approvableBy_4 : decode cX0_approvableBy 4 = .ok (.iload_n 3, 1) := by decide +kernel
theorem dX0_approvableBy_5 : decode cX0_approvableBy 5 = .ok (.aload_n 0, 1) := by decide +kernel
theorem dX0_approvableBy_6 : decode cX0_approvableBy 6 = .ok (.getfield 23, 3) := by decide +kernel
theorem dX0_approvableBy_9 : decode cX0_approvableBy 9 = .ok (.getfield 88, 3) := by decide +kernel
theorem dX0_approvableBy_12 : decode cX0_approvableBy 12 = .ok (.if_icmp .ge 29, 3) := by decide +kernel
theorem dX0_approvableBy_15 : decode cX0_approvableBy 15 = .ok (.iload_n 2, 1) := by decide +kernel
theorem dX0_approvableBy_16 : decode cX0_approvableBy 16 = .ok (.aload_n 0, 1) := by decide +kernel
theorem dX0_approvableBy_17 : decode cX0_approvableBy 17 = .ok (.iload_n 3, 1) := by decide +kernel
theorem dX0_approvableBy_18 : decode cX0_approvableBy 18 = .ok (.invokevirtual 128, 3) := by decide +kernel
theorem dX0_approvableBy_21 : decode cX0_approvableBy 21 = .ok (.iload_n 1, 1) := by decide +kernel
theorem dX0_approvableBy_22 : decode cX0_approvableBy 22 = .ok (.invokestatic 131, 3) := by decide +kernel
theorem dX0_approvableBy_25 : decode cX0_approvableBy 25 = .ok (.ifCond .eq 7, 3) := by decide +kernel
theorem dX0_approvableBy_28 : decode cX0_approvableBy 28 = .ok (.iconst 1, 1) := by decide +kernel
theorem dX0_approvableBy_29 : decode cX0_approvableBy 29 = .ok (.goto 4, 3) := by decide +kernel
theorem dX0_approvableBy_32 : decode cX0_approvableBy 32 = .ok (.iconst 0, 1) := by decide +kernel
theorem dX0_approvableBy_33 : decode cX0_approvableBy 33 = .ok (.iadd, 1) := by decide +kernel
theorem dX0_approvableBy_34 : decode cX0_approvableBy 34 = .ok (.istore_n 2, 1) := by decide +kernel
theorem dX0_approvableBy_35 : decode cX0_approvableBy 35 = .ok (.iinc 3 1, 3) := by decide +kernel
theorem dX0_approvableBy_38 : decode cX0_approvableBy 38 = .ok (.goto (-34), 3) := by decide +kernel
theorem dX0_approvableBy_41 : decode cX0_approvableBy 41 = .ok (.iload_n 2, 1) := by decide +kernel
theorem dX0_approvableBy_42 : decode cX0_approvableBy 42 = .ok (.ireturn, 1) := by decide +kernel
theorem dX0_isPersonIn_0 : decode cX0_isPersonIn 0 = .ok (.iload_n 1, 1) := by decide +kernel
theorem dX0_isPersonIn_1 : decode cX0_isPersonIn 1 = .ok (.ifCond .lt 22, 3) := by decide +kernel
theorem dX0_isPersonIn_4 : decode cX0_isPersonIn 4 = .ok (.iload_n 1, 1) := by decide +kernel
theorem dX0_isPersonIn_5 : decode cX0_isPersonIn 5 = .ok (.bipush 8, 2) := by decide +kernel
theorem dX0_isPersonIn_7 : decode cX0_isPersonIn 7 = .ok (.if_icmp .ge 16, 3) := by decide +kernel
theorem dX0_isPersonIn_10 : decode cX0_isPersonIn 10 = .ok (.iload_n 0, 1) := by decide +kernel
theorem dX0_isPersonIn_11 : decode cX0_isPersonIn 11 = .ok (.iload_n 1, 1) := by decide +kernel
theorem dX0_isPersonIn_12 : decode cX0_isPersonIn 12 = .ok (.ishr, 1) := by decide +kernel
theorem dX0_isPersonIn_13 : decode cX0_isPersonIn 13 = .ok (.iconst 1, 1) := by decide +kernel
theorem dX0_isPersonIn_14 : decode cX0_isPersonIn 14 = .ok (.iand, 1) := by decide +kernel
theorem dX0_isPersonIn_15 : decode cX0_isPersonIn 15 = .ok (.iconst 1, 1) := by decide +kernel
theorem dX0_isPersonIn_16 : decode cX0_isPersonIn 16 = .ok (.if_icmp .ne 7, 3) := by decide +kernel
theorem dX0_isPersonIn_19 : decode cX0_isPersonIn 19 = .ok (.iconst 1, 1) := by decide +kernel
theorem dX0_isPersonIn_20 : decode cX0_isPersonIn 20 = .ok (.goto 4, 3) := by decide +kernel
theorem dX0_isPersonIn_23 : decode cX0_isPersonIn 23 = .ok (.iconst 0, 1) := by decide +kernel
theorem dX0_isPersonIn_24 : decode cX0_isPersonIn 24 = .ok (.ireturn, 1) := by decide +kernel
set_option maxRecDepth 20000 in
theorem ggX1_init_X0_init : GoodIn wsX1_init wsX0_init := goodIn_r _ [9, 10, 2, 3, 11, 12, 13, 14, 15, 16, 17, 18, 19, 20, 21, 22, 23, 24, 25, 26, 27, 28, 29, 30, 31, 32, 33, 34, 35, 36, 37, 38, 39, 55, 43, 44, 45, 46, 47, 48, 49, 50, 51, 52, 53, 54, 56, 57, 58, 59] (by decide +kernel) (by decide +kernel)
set_option maxRecDepth 20000 in
theorem gX1_init_X0_init_n17 : GoodIn wsX1_init (wsX0_init) := ggX1_init_X0_init
theorem dX1_init_0 : decode cX1_init 0 = .ok (.aload_n 0, 1) := by decide +kernel
theorem dX1_init_1 : decode cX1_init 1 = .ok (.invokespecial 3, 3) := by decide +kernel
theorem dX1_init_4 : decode cX1_init 4 = .ok (.aload_n 0, 1) := by decide +kernel
theorem dX1_init_5 : decode cX1_init 5 = .ok (.bipush 6, 2) := by decide +kernel
theorem dX1_init_7 : decode cX1_init 7 = .ok (.anewarray 9, 3) := by decide +kernel
theorem dX1_init_10 : decode cX1_init 10 = .ok (.putfield 11, 3) := by decide +kernel
theorem dX1_init_13 : decode cX1_init 13 = .ok (.iconst 0, 1) := by decide +kernel
theorem dX1_init_14 : decode cX1_init 14 = .ok (.istore_n 1, 1) := by decide +kernel
theorem dX1_init_15 : decode cX1_init 15 = .ok (.iload_n 1, 1) := by decide +kernel
theorem dX1_init_16 : decode cX1_init 16 = .ok (.aload_n 0, 1) := by decide +kernel
theorem dX1_init_17 : decode cX1_init 17 = .ok (.getfield 11, 3) := by decide +kernel
theorem dX1_init_20 : decode cX1_init 20 = .ok (.arraylength, 1) := by decide +kernel
theorem dX1_init_21 : decode cX1_init 21 = .ok (.if_icmp .ge 22, 3) := by decide +kernel
theorem dX1_init_24 : decode cX1_init 24 = .ok (.aload_n 0, 1) := by decide +kernel
theorem dX1_init_25 : decode cX1_init 25 = .ok (.getfield 11, 3) := by decide +kernel
theorem dX1_init_28 : decode cX1_init 28 = .ok (.iload_n 1, 1) := by decide +kernel
theorem dX1_init_29 : decode cX1_init 29 = .ok (.new 9, 3) := by decide +kernel
theorem dX1_init_32 : decode cX1_init 32 = .ok (.dup, 1) := by decide +kernel
theorem dX1_init_33 : decode cX1_init 33 = .ok (.invokespecial 17, 3) := by decide +kernel
theorem dX1_init_36 : decode cX1_init 36 = .ok (.aastore, 1) := by decide +kernel
theorem dX1_init_37 : decode cX1_init 37 = .ok (.iinc 1 1, 3) := by decide +kernel
theorem dX1_init_40 : decode cX1_init 40 = .ok (.goto (-25), 3) := by decide +kernel
theorem dX1_init_43 : decode cX1_init 43 = .ok (.return_, 1) := by decide +kernel
set_option maxRecDepth 20000 in
theorem ggX1_keep_X1_at : GoodIn wsX1_keep wsX1_at := goodIn_r _ [7, 8, 36, 37, 38] (by decide +kernel) (by decide +kernel)
set_option maxRecDepth 20000 in
theorem gX1_keep_X1_at : GoodIn wsX1_keep (wsV RX1 25 RX1 yX1_at wsX1_at) := goodIn_app (goodIn_of _ (by decide +kernel)) ggX1_keep_X1_at
set_option maxRecDepth 20000 in
theorem ggX1_keep_X1_copy : GoodIn wsX1_keep wsX1_copy := goodIn_r _ [11, 12, 13, 14, 15, 16, 17, 18, 19, 20, 21, 22, 23, 24, 25, 26, 27, 28, 29, 30, 31, 32, 33, 34, 35, 39, 40, 41, 42, 43, 44, 45, 46, 47, 48, 49, 50, 51, 52, 53, 54, 55] (by decide +kernel) (by decide +kernel)
set_option maxRecDepth 20000 in
theorem gX1_keep_X1_copy : GoodIn wsX1_keep (va_wsS RX1 29 yX1_copy wsX1_copy) := goodIn_app (goodIn_of _ (by decide +kernel)) ggX1_keep_X1_copy
theorem dX1_keep_0 : decode cX1_keep 0 = .ok (.aload_n 1, 1) := by decide +kernel
theorem dX1_keep_1 : decode cX1_keep 1 = .ok (.aload_n 0, 1) := by decide +kernel
theorem dX1_keep_2 : decode cX1_keep 2 = .ok (.aload_n 0, 1) := by decide +kernel
theorem dX1_keep_3 : decode cX1_keep 3 = .ok (.getfield 18, 3) := by decide +kernel
theorem dX1_keep_6 : decode cX1_keep 6 = .ok (.aload_n 0, 1) := by decide +kernel
theorem dX1_keep_7 : decode cX1_keep 7 = .ok (.getfield 22, 3) := by decide +kernel
theorem dX1_keep_10 : decode cX1_keep 10 = .ok (.iadd, 1) := by decide +kernel
theorem dX1_keep_11 : decode cX1_keep 11 = .ok (.bipush 6, 2) := by decide +kernel
theorem dX1_keep_13 : decode cX1_keep 13 = .ok (.irem, 1) := by decide +kernel
theorem dX1_keep_14 : decode cX1_keep 14 = .ok (.invokevirtual 25, 3) := by decide +kernel
theorem dX1_keep_17 : decode cX1_keep 17 = .ok (.invokestatic 29, 3) := by decide +kernel
theorem dX1_keep_20 : decode cX1_keep 20 = .ok (.aload_n 0, 1) := by decide +kernel
theorem dX1_keep_21 : decode cX1_keep 21 = .ok (.getfield 22, 3) := by decide +kernel
theorem dX1_keep_24 : decode cX1_keep 24 = .ok (.bipush 6, 2) := by decide +kernel
theorem dX1_keep_26 : decode cX1_keep 26 = .ok (.if_icmp .ge 16, 3) := by decide +kernel
theorem dX1_keep_29 : decode cX1_keep 29 = .ok (.aload_n 0, 1) := by decide +kernel
theorem dX1_keep_30 : decode cX1_keep 30 = .ok (.dup, 1) := by decide +kernel
theorem dX1_keep_31 : decode cX1_keep 31 = .ok (.getfield 22, 3) := by decide +kernel
theorem dX1_keep_34 : decode cX1_keep 34 = .ok (.iconst 1, 1) := by decide +kernel
theorem dX1_keep_35 : decode cX1_keep 35 = .ok (.iadd, 1) := by decide +kernel
theorem dX1_keep_36 : decode cX1_keep 36 = .ok (.putfield 22, 3) := by decide +kernel
theorem dX1_keep_39 : decode cX1_keep 39 = .ok (.goto 16, 3) := by decide +kernel
theorem dX1_keep_42 : decode cX1_keep 42 = .ok (.aload_n 0, 1) := by decide +kernel
theorem dX1_keep_43 : decode cX1_keep 43 = .ok (.aload_n 0, 1) := by decide +kernel
theorem dX1_keep_44 : decode cX1_keep 44 = .ok (.getfield 18, 3) := by decide +kernel
theorem dX1_keep_47 : decode cX1_keep 47 = .ok (.iconst 1, 1) := by decide +kernel
theorem dX1_keep_48 : decode cX1_keep 48 = .ok (.iadd, 1) := by decide +kernel
theorem dX1_keep_49 : decode cX1_keep 49 = .ok (.bipush 6, 2) := by decide +kernel
theorem dX1_keep_51 : decode cX1_keep 51 = .ok (.irem, 1) := by decide +kernel
theorem dX1_keep_52 : decode cX1_keep 52 = .ok (.putfield 18, 3) := by decide +kernel
theorem dX1_keep_55 : decode cX1_keep 55 = .ok (.return_, 1) := by decide +kernel
set_option maxRecDepth 20000 in
theorem ggX1_restore_X1_at : GoodIn wsX1_restore wsX1_at := goodIn_r _ [7, 8, 36, 37, 38] (by decide +kernel) (by decide +kernel)
set_option maxRecDepth 20000 in
theorem gX1_restore_X1_at : GoodIn wsX1_restore (wsV RX1 25 RX1 yX1_at wsX1_at) := goodIn_app (goodIn_of _ (by decide +kernel)) ggX1_restore_X1_at
set_option maxRecDepth 20000 in
theorem ggX1_restore_X1_copy : GoodIn wsX1_restore wsX1_copy := goodIn_r _ [11, 12, 13, 14, 15, 16, 17, 18, 19, 20, 21, 22, 23, 24, 25, 26, 27, 28, 29, 30, 31, 32, 33, 34, 35, 39, 40, 41, 42, 43, 44, 45, 46, 47, 48, 49, 50, 51, 52, 53, 54, 55] (by decide +kernel) (by decide +kernel)
set_option maxRecDepth 20000 in
theorem gX1_restore_X1_copy : GoodIn wsX1_restore (va_wsS RX1 29 yX1_copy wsX1_copy) := goodIn_app (goodIn_of _ (by decide +kernel)) ggX1_restore_X1_copy
theorem dX1_restore_0 : decode cX1_restore 0 = .ok (.aload_n 0, 1) := by decide +kernel
theorem dX1_restore_1 : decode cX1_restore 1 = .ok (.getfield 22, 3) := by decide +kernel
theorem dX1_restore_4 : decode cX1_restore 4 = .ok (.ifCond .le 33, 3) := by decide +kernel
theorem dX1_restore_7 : decode cX1_restore 7 = .ok (.aload_n 0, 1) := by decide +kernel
theorem dX1_restore_8 : decode cX1_restore 8 = .ok (.dup, 1) := by decide +kernel
theorem dX1_restore_9 : decode cX1_restore 9 = .ok (.getfield 22, 3) := by decide +kernel
theorem dX1_restore_12 : decode cX1_restore 12 = .ok (.iconst 1, 1) := by decide +kernel
theorem dX1_restore_13 : decode cX1_restore 13 = .ok (.isub, 1) := by decide +kernel
theorem dX1_restore_14 : decode cX1_restore 14 = .ok (.putfield 22, 3) := by decide +kernel
theorem dX1_restore_17 : decode cX1_restore 17 = .ok (.aload_n 0, 1) := by decide +kernel
theorem dX1_restore_18 : decode cX1_restore 18 = .ok (.aload_n 0, 1) := by decide +kernel
theorem dX1_restore_19 : decode cX1_restore 19 = .ok (.getfield 18, 3) := by decide +kernel
theorem dX1_restore_22 : decode cX1_restore 22 = .ok (.aload_n 0, 1) := by decide +kernel
theorem dX1_restore_23 : decode cX1_restore 23 = .ok (.getfield 22, 3) := by decide +kernel
theorem dX1_restore_26 : decode cX1_restore 26 = .ok (.iadd, 1) := by decide +kernel
theorem dX1_restore_27 : decode cX1_restore 27 = .ok (.bipush 6, 2) := by decide +kernel
theorem dX1_restore_29 : decode cX1_restore 29 = .ok (.irem, 1) := by decide +kernel
theorem dX1_restore_30 : decode cX1_restore 30 = .ok (.invokevirtual 25, 3) := by decide +kernel
theorem dX1_restore_33 : decode cX1_restore 33 = .ok (.aload_n 1, 1) := by decide +kernel
theorem dX1_restore_34 : decode cX1_restore 34 = .ok (.invokestatic 29, 3) := by decide +kernel
theorem dX1_restore_37 : decode cX1_restore 37 = .ok (.aload_n 0, 1) := by decide +kernel
theorem dX1_restore_38 : decode cX1_restore 38 = .ok (.getfield 22, 3) := by decide +kernel
theorem dX1_restore_41 : decode cX1_restore 41 = .ok (.ireturn, 1) := by decide +kernel
theorem dX1_at_0 : decode cX1_at 0 = .ok (.iload_n 1, 1) := by decide +kernel
theorem dX1_at_1 : decode cX1_at 1 = .ok (.ifCond .lt 21, 3) := by decide +kernel
theorem dX1_at_4 : decode cX1_at 4 = .ok (.iload_n 1, 1) := by decide +kernel
theorem dX1_at_5 : decode cX1_at 5 = .ok (.aload_n 0, 1) := by decide +kernel
theorem dX1_at_6 : decode cX1_at 6 = .ok (.getfield 11, 3) := by decide +kernel
theorem dX1_at_9 : decode cX1_at 9 = .ok (.arraylength, 1) := by decide +kernel
theorem dX1_at_10 : decode cX1_at 10 = .ok (.if_icmp .ge 12, 3) := by decide +kernel
theorem dX1_at_13 : decode cX1_at 13 = .ok (.aload_n 0, 1) := by decide +kernel
theorem dX1_at_14 : decode cX1_at 14 = .ok (.getfield 11, 3) := by decide +kernel
theorem dX1_at_17 : decode cX1_at 17 = .ok (.iload_n 1, 1) := by decide +kernel
theorem dX1_at_18 : decode cX1_at 18 = .ok (.aaload, 1) := by decide +kernel
theorem dX1_at_19 : decode cX1_at 19 = .ok (.goto 4, 3) := by decide +kernel
theorem dX1_at_22 : decode cX1_at 22 = .ok (.aconst_null, 1) := by decide +kernel
theorem dX1_at_23 : decode cX1_at 23 = .ok (.areturn, 1) := by decide +kernel
set_option maxRecDepth 20000 in
theorem ggX1_copy_X0_copyFrom : GoodIn wsX1_copy wsX0_copyFrom := goodIn_r _ [5, 6, 7, 8, 9, 10, 11, 12, 13, 14, 15, 16, 17, 18, 19, 20, 21, 22, 23, 24, 25, 26, 27, 28, 29, 30, 31, 32, 33, 34, 35, 36, 37, 38, 39, 40, 41] (by decide +kernel) (by decide +kernel)
set_option maxRecDepth 20000 in
theorem gX1_copy_X0_copyFrom : GoodIn wsX1_copy (wsV RX1 33 RX0 yX0_copyFrom wsX0_copyFrom) := goodIn_app (goodIn_of _ (by decide +kernel)) ggX1_copy_X0_copyFrom
theorem dX1_copy_0 : decode cX1_copy 0 = .ok (.aload_n 0, 1) := by decide +kernel
theorem dX1_copy_1 : decode cX1_copy 1 = .ok (.ifnull 12, 3) := by decide +kernel
theorem dX1_copy_4 : decode cX1_copy 4 = .ok (.aload_n 1, 1) := by decide +kernel
theorem dX1_copy_5 : decode cX1_copy 5 = .ok (.ifnull 8, 3) := by decide +kernel
theorem dX1_copy_8 : decode cX1_copy 8 = .ok (.aload_n 1, 1) := by decide +kernel
theorem dX1_copy_9 : decode cX1_copy 9 = .ok (.aload_n 0, 1) := by decide +kernel
theorem dX1_copy_10 : decode cX1_copy 10 = .ok (.invokevirtual 33, 3) := by decide +kernel
theorem dX1_copy_13 : decode cX1_copy 13 = .ok (.return_, 1) := by decide +kernel
set_option maxRecDepth 20000 in
theorem ggX2_init_X3_init : GoodIn wsX2_init wsX3_init := goodIn_r _ [10, 11, 2, 3, 12, 13, 14, 15, 16, 17, 18, 19, 20, 21, 22, 23] (by decide +kernel) (by decide +kernel)
set_option maxRecDepth 20000 in
theorem gX2_init_X3_init : GoodIn wsX2_init (wsX3_init) := ggX2_init_X3_init
theorem dX2_init_0 : decode cX2_init 0 = .ok (.aload_n 0, 1) := by decide +kernel
theorem dX2_init_1 : decode cX2_init 1 = .ok (.invokespecial 3, 3) := by decide +kernel
theorem dX2_init_4 : decode cX2_init 4 = .ok (.aload_n 0, 1) := by decide +kernel
theorem dX2_init_5 : decode cX2_init 5 = .ok (.new 9, 3) := by decide +kernel
theorem dX2_init_8 : decode cX2_init 8 = .ok (.dup, 1) := by decide +kernel
theorem dX2_init_9 : decode cX2_init 9 = .ok (.bipush 12, 2) := by decide +kernel
theorem dX2_init_11 : decode cX2_init 11 = .ok (.bipush 8, 2) := by decide +kernel
theorem dX2_init_13 : decode cX2_init 13 = .ok (.invokespecial 13, 3) := by decide +kernel
theorem dX2_init_16 : decode cX2_init 16 = .ok (.putfield 16, 3) := by decide +kernel
theorem dX2_init_19 : decode cX2_init 19 = .ok (.return_, 1) := by decide +kernel
theorem dX2_total_0 : decode cX2_total 0 = .ok (.aload_n 0, 1) := by decide +kernel
theorem dX2_total_1 : decode cX2_total 1 = .ok (.getfield 16, 3) := by decide +kernel
theorem dX2_total_4 : decode cX2_total 4 = .ok (.getfield 20, 3) := by decide +kernel
theorem dX2_total_7 : decode cX2_total 7 = .ok (.ireturn, 1) := by decide +kernel
set_option maxRecDepth 20000 in
theorem ggX2_get_X3_get : GoodIn wsX2_get wsX3_get := goodIn_r _ [6, 7, 8, 9, 11, 12, 13, 14] (by decide +kernel) (by decide +kernel)
set_option maxRecDepth 20000 in
theorem gX2_get_X3_get : GoodIn wsX2_get (wsV RX2 24 RX3 yX3_get wsX3_get) := goodIn_app (goodIn_of _ (by decide +kernel)) ggX2_get_X3_get
theorem dX2_get_0 : decode cX2_get 0 = .ok (.aload_n 0, 1) := by decide +kernel
theorem dX2_get_1 : decode cX2_get 1 = .ok (.getfield 16, 3) := by decide +kernel
theorem dX2_get_4 : decode cX2_get 4 = .ok (.iload_n 1, 1) := by decide +kernel
theorem dX2_get_5 : decode cX2_get 5 = .ok (.iload_n 2, 1) := by decide +kernel
theorem dX2_get_6 : decode cX2_get 6 = .ok (.invokevirtual 24, 3) := by decide +kernel
theorem dX2_get_9 : decode cX2_get 9 = .ok (.ireturn, 1) := by decide +kernel
set_option maxRecDepth 20000 in
theorem ggX2_exchange_X3_get : GoodIn wsX2_exchange wsX3_get := goodIn_r _ [6, 7, 8, 9, 15, 16, 17, 18] (by decide +kernel) (by decide +kernel)
set_option maxRecDepth 20000 in
theorem gX2_exchange_X3_get : GoodIn wsX2_exchange (wsV RX2 24 RX3 yX3_get wsX3_get) := goodIn_app (goodIn_of _ (by decide +kernel)) ggX2_exchange_X3_get
set_option maxRecDepth 20000 in
theorem ggX2_exchange_X3_put : GoodIn wsX2_exchange wsX3_put := goodIn_r _ [13, 7, 8, 9, 15, 16, 17, 18] (by decide +kernel) (by decide +kernel)
set_option maxRecDepth 20000 in
theorem gX2_exchange_X3_put : GoodIn wsX2_exchange (wsV RX2 28 RX3 yX3_put wsX3_put) := goodIn_app (goodIn_of _ (by decide +kernel)) ggX2_exchange_X3_put
theorem dX2_exchange_0 : decode cX2_exchange 0 = .ok (.aload_n 0, 1) := by decide +kernel
theorem dX2_exchange_1 : decode cX2_exchange 1 = .ok (.getfield 16, 3) := by decide +kernel
theorem dX2_exchange_4 : decode cX2_exchange 4 = .ok (.iload_n 1, 1) := by decide +kernel
theorem dX2_exchange_5 : decode cX2_exchange 5 = .ok (.iload_n 2, 1) := by decide +kernel
theorem dX2_exchange_6 : decode cX2_exchange 6 = .ok (.invokevirtual 24, 3) := by decide +kernel
theorem dX2_exchange_9 : decode cX2_exchange 9 = .ok (.istore 4, 2) := by decide +kernel
theorem dX2_exchange_11 : decode cX2_exchange 11 = .ok (.aload_n 0, 1) := by decide +kernel
theorem dX2_exchange_12 : decode cX2_exchange 12 = .ok (.getfield 16, 3) := by decide +kernel
theorem dX2_exchange_15 : decode cX2_exchange 15 = .ok (.iload_n 1, 1) := by decide +kernel
theorem dX2_exchange_16 : decode cX2_exchange 16 = .ok (.iload_n 2, 1) := by decide +kernel
theorem dX2_exchange_17 : decode cX2_exchange 17 = .ok (.iload_n 3, 1) := by decide +kernel
theorem dX2_exchange_18 : decode cX2_exchange 18 = .ok (.invokevirtual 28, 3) := by decide +kernel
theorem dX2_exchange_21 : decode cX2_exchange 21 = .ok (.iload 4, 2) := by decide +kernel
theorem dX2_exchange_23 : decode cX2_exchange 23 = .ok (.ireturn, 1) := by decide +kernel
set_option maxRecDepth 20000 in
theorem ggX2_begin_X3_addRow : GoodIn wsX2_begin wsX3_addRow := goodIn_r _ [6, 7, 8, 9, 10, 11, 5, 12, 13, 14, 15, 16, 17, 18, 21, 22, 23, 24] (by decide +kernel) (by decide +kernel)
set_option maxRecDepth 20000 in
theorem gX2_begin_X3_addRow : GoodIn wsX2_begin (wsV RX2 32 RX3 yX3_addRow wsX3_addRow) := goodIn_app (goodIn_of _ (by decide +kernel)) ggX2_begin_X3_addRow
set_option maxRecDepth 20000 in
theorem ggX2_begin_X3_put : GoodIn wsX2_begin wsX3_put := goodIn_r _ [17, 7, 8, 18, 21, 22, 23, 24] (by decide +kernel) (by decide +kernel)
set_option maxRecDepth 20000 in
theorem gX2_begin_X3_put : GoodIn wsX2_begin (wsV RX2 28 RX3 yX3_put wsX3_put) := goodIn_app (goodIn_of _ (by decide +kernel)) ggX2_begin_X3_put
theorem dX2_begin_0 : decode cX2_begin 0 = .ok (.aload_n 0, 1) := by decide +kernel
theorem dX2_begin_1 : decode cX2_begin 1 = .ok (.getfield 16, 3) := by decide +kernel
theorem dX2_begin_4 : decode cX2_begin 4 = .ok (.invokevirtual 32, 3) := by decide +kernel
theorem dX2_begin_7 : decode cX2_begin 7 = .ok (.istore 6, 2) := by decide +kernel
theorem dX2_begin_9 : decode cX2_begin 9 = .ok (.aload_n 0, 1) := by decide +kernel
theorem dX2_begin_10 : decode cX2_begin 10 = .ok (.getfield 16, 3) := by decide +kernel
theorem dX2_begin_13 : decode cX2_begin 13 = .ok (.iload 6, 2) := by decide +kernel
theorem dX2_begin_15 : decode cX2_begin 15 = .ok (.iconst 0, 1) := by decide +kernel
theorem dX2_begin_16 : decode cX2_begin 16 = .ok (.iload_n 1, 1) := by decide +kernel
theorem dX2_begin_17 : decode cX2_begin 17 = .ok (.invokevirtual 28, 3) := by decide +kernel
theorem dX2_begin_20 : decode cX2_begin 20 = .ok (.aload_n 0, 1) := by decide +kernel
theorem dX2_begin_21 : decode cX2_begin 21 = .ok (.getfield 16, 3) := by decide +kernel
theorem dX2_begin_24 : decode cX2_begin 24 = .ok (.iload 6, 2) := by decide +kernel
theorem dX2_begin_26 : decode cX2_begin 26 = .ok (.iconst 1, 1) := by decide +kernel
theorem dX2_begin_27 : decode cX2_begin 27 = .ok (.iload_n 2, 1) := by decide +kernel
theorem dX2_begin_28 : decode cX2_begin 28 = .ok (.invokevirtual 28, 3) := by decide +kernel
theorem dX2_begin_31 : decode cX2_begin 31 = .ok (.aload_n 0, 1) := by decide +kernel
theorem dX2_begin_32 : decode cX2_begin 32 = .ok (.getfield 16, 3) := by decide +kernel
theorem dX2_begin_35 : decode cX2_begin 35 = .ok (.iload 6, 2) := by decide +kernel
theorem dX2_begin_37 : decode cX2_begin 37 = .ok (.iconst 2, 1) := by decide +kernel
theorem dX2_begin_38 : decode cX2_begin 38 = .ok (.iload_n 3, 1) := by decide +kernel
theorem dX2_begin_39 : decode cX2_begin 39 = .ok (.invokevirtual 28, 3) := by decide +kernel
theorem dX2_begin_42 : decode cX2_begin 42 = .ok (.aload_n 0, 1) := by decide +kernel
theorem dX2_begin_43 : decode cX2_begin 43 = .ok (.getfield 16, 3) := by decide +kernel
theorem dX2_begin_46 : decode cX2_begin 46 = .ok (.iload 6, 2) := by decide +kernel
theorem dX2_begin_48 : decode cX2_begin 48 = .ok (.iconst 3, 1) := by decide +kernel
theorem dX2_begin_49 : decode cX2_begin 49 = .ok (.iload 4, 2) := by decide +kernel
theorem dX2_begin_51 : decode cX2_begin 51 = .ok (.invokevirtual 28, 3) := by decide +kernel
theorem dX2_begin_54 : decode cX2_begin 54 = .ok (.aload_n 0, 1) := by decide +kernel
theorem dX2_begin_55 : decode cX2_begin 55 = .ok (.getfield 16, 3) := by decide +kernel
theorem dX2_begin_58 : decode cX2_begin 58 = .ok (.iload 6, 2) := by decide +kernel
theorem dX2_begin_60 : decode cX2_begin 60 = .ok (.iconst 4, 1) := by decide +kernel
theorem dX2_begin_61 : decode cX2_begin 61 = .ok (.iload 5, 2) := by decide +kernel
theorem dX2_begin_63 : decode cX2_begin 63 = .ok (.invokevirtual 28, 3) := by decide +kernel
theorem dX2_begin_66 : decode cX2_begin 66 = .ok (.aload_n 0, 1) := by decide +kernel
theorem dX2_begin_67 : decode cX2_begin 67 = .ok (.getfield 16, 3) := by decide +kernel
theorem dX2_begin_70 : decode cX2_begin 70 = .ok (.iload 6, 2) := by decide +kernel
theorem dX2_begin_72 : decode cX2_begin 72 = .ok (.iconst 5, 1) := by decide +kernel
theorem dX2_begin_73 : decode cX2_begin 73 = .ok (.iconst (-1), 1) := by decide +kernel
theorem dX2_begin_74 : decode cX2_begin 74 = .ok (.invokevirtual 28, 3) := by decide +kernel
theorem dX2_begin_77 : decode cX2_begin 77 = .ok (.iload 6, 2) := by decide +kernel
theorem dX2_begin_79 : decode cX2_begin 79 = .ok (.ireturn, 1) := by decide +kernel
set_option maxRecDepth 20000 in
theorem ggX2_stands_X2_total : GoodIn wsX2_stands wsX2_total := goodIn_r _ [6, 1, 15, 16, 17, 18, 19] (by decide +kernel) (by decide +kernel)
set_option maxRecDepth 20000 in
theorem gX2_stands_X2_total : GoodIn wsX2_stands (wsV RX2 36 RX2 yX2_total wsX2_total) := goodIn_app (goodIn_of _ (by decide +kernel)) ggX2_stands_X2_total
set_option maxRecDepth 20000 in
theorem ggX2_stands_X3_get : GoodIn wsX2_stands wsX3_get := goodIn_r _ [11, 12, 13, 14, 16, 17, 18, 19] (by decide +kernel) (by decide +kernel)
set_option maxRecDepth 20000 in
theorem gX2_stands_X3_get : GoodIn wsX2_stands (wsV RX2 24 RX3 yX3_get wsX3_get) := goodIn_app (goodIn_of _ (by decide +kernel)) ggX2_stands_X3_get
theorem dX2_stands_0 : decode cX2_stands 0 = .ok (.iload_n 1, 1) := by decide +kernel
theorem dX2_stands_1 : decode cX2_stands 1 = .ok (.ifCond .lt 28, 3) := by decide +kernel
theorem dX2_stands_4 : decode cX2_stands 4 = .ok (.iload_n 1, 1) := by decide +kernel
theorem dX2_stands_5 : decode cX2_stands 5 = .ok (.aload_n 0, 1) := by decide +kernel
theorem dX2_stands_6 : decode cX2_stands 6 = .ok (.invokevirtual 36, 3) := by decide +kernel
theorem dX2_stands_9 : decode cX2_stands 9 = .ok (.if_icmp .ge 20, 3) := by decide +kernel
theorem dX2_stands_12 : decode cX2_stands 12 = .ok (.aload_n 0, 1) := by decide +kernel
theorem dX2_stands_13 : decode cX2_stands 13 = .ok (.getfield 16, 3) := by decide +kernel
theorem dX2_stands_16 : decode cX2_stands 16 = .ok (.iload_n 1, 1) := by decide +kernel
theorem dX2_stands_17 : decode cX2_stands 17 = .ok (.iconst 5, 1) := by decide +kernel
theorem dX2_stands_18 : decode cX2_stands 18 = .ok (.invokevirtual 24, 3) := by decide +kernel
theorem dX2_stands_21 : decode cX2_stands 21 = .ok (.iconst (-1), 1) := by decide +kernel
theorem dX2_stands_22 : decode cX2_stands 22 = .ok (.if_icmp .ne 7, 3) := by decide +kernel
theorem dX2_stands_25 : decode cX2_stands 25 = .ok (.iconst 1, 1) := by decide +kernel
theorem dX2_stands_26 : decode cX2_stands 26 = .ok (.goto 4, 3) := by decide +kernel
theorem dX2_stands_29 : decode cX2_stands 29 = .ok (.iconst 0, 1) := by decide +kernel
theorem dX2_stands_30 : decode cX2_stands 30 = .ok (.ireturn, 1) := by decide +kernel
set_option maxRecDepth 20000 in
theorem ggX2_chainOf_X3_get : GoodIn wsX2_chainOf wsX3_get := goodIn_r _ [6, 7, 8, 9, 11, 12, 13, 14] (by decide +kernel) (by decide +kernel)
set_option maxRecDepth 20000 in
theorem gX2_chainOf_X3_get : GoodIn wsX2_chainOf (wsV RX2 24 RX3 yX3_get wsX3_get) := goodIn_app (goodIn_of _ (by decide +kernel)) ggX2_chainOf_X3_get
theorem dX2_chainOf_0 : decode cX2_chainOf 0 = .ok (.iconst 0, 1) := by decide +kernel
theorem dX2_chainOf_1 : decode cX2_chainOf 1 = .ok (.istore_n 2, 1) := by decide +kernel
theorem dX2_chainOf_2 : decode cX2_chainOf 2 = .ok (.iload_n 1, 1) := by decide +kernel
theorem dX2_chainOf_3 : decode cX2_chainOf 3 = .ok (.istore_n 3, 1) := by decide +kernel
theorem dX2_chainOf_4 : decode cX2_chainOf 4 = .ok (.iconst 0, 1) := by decide +kernel
theorem dX2_chainOf_5 : decode cX2_chainOf 5 = .ok (.istore 4, 2) := by decide +kernel
theorem dX2_chainOf_7 : decode cX2_chainOf 7 = .ok (.iload 4, 2) := by decide +kernel
theorem dX2_chainOf_9 : decode cX2_chainOf 9 = .ok (.bipush 12, 2) := by decide +kernel
theorem dX2_chainOf_11 : decode cX2_chainOf 11 = .ok (.if_icmp .ge 29, 3) := by decide +kernel
theorem dX2_chainOf_14 : decode cX2_chainOf 14 = .ok (.iload_n 3, 1) := by decide +kernel
theorem dX2_chainOf_15 : decode cX2_chainOf 15 = .ok (.ifCond .lt 25, 3) := by decide +kernel
theorem dX2_chainOf_18 : decode cX2_chainOf 18 = .ok (.iload_n 2, 1) := by decide +kernel
theorem dX2_chainOf_19 : decode cX2_chainOf 19 = .ok (.iconst 1, 1) := by decide +kernel
theorem dX2_chainOf_20 : decode cX2_chainOf 20 = .ok (.iload_n 3, 1) := by decide +kernel
theorem dX2_chainOf_21 : decode cX2_chainOf 21 = .ok (.ishl, 1) := by decide +kernel
theorem dX2_chainOf_22 : decode cX2_chainOf 22 = .ok (.ior, 1) := by decide +kernel
theorem dX2_chainOf_23 : decode cX2_chainOf 23 = .ok (.istore_n 2, 1) := by decide +kernel
theorem dX2_chainOf_24 : decode cX2_chainOf 24 = .ok (.aload_n 0, 1) := by decide +kernel
theorem dX2_chainOf_25 : decode cX2_chainOf 25 = .ok (.getfield 16, 3) := by decide +kernel
theorem dX2_chainOf_28 : decode cX2_chainOf 28 = .ok (.iload_n 3, 1) := by decide +kernel
theorem dX2_chainOf_29 : decode cX2_chainOf 29 = .ok (.iconst 0, 1) := by decide +kernel
theorem dX2_chainOf_30 : decode cX2_chainOf 30 = .ok (.invokevirtual 24, 3) := by decide +kernel
theorem dX2_chainOf_33 : decode cX2_chainOf 33 = .ok (.istore_n 3, 1) := by decide +kernel
theorem dX2_chainOf_34 : decode cX2_chainOf 34 = .ok (.iinc 4 1, 3) := by decide +kernel
theorem dX2_chainOf_37 : decode cX2_chainOf 37 = .ok (.goto (-30), 3) := by decide +kernel
theorem dX2_chainOf_40 : decode cX2_chainOf 40 = .ok (.iload_n 2, 1) := by decide +kernel
theorem dX2_chainOf_41 : decode cX2_chainOf 41 = .ok (.ireturn, 1) := by decide +kernel
set_option maxRecDepth 20000 in
theorem ggX2_chainLength_X2_chainOf : GoodIn wsX2_chainLength wsX2_chainOf := goodIn_r _ [5, 6, 7, 8, 9, 10, 11, 12, 13, 14, 22, 23, 24, 25, 26] (by decide +kernel) (by decide +kernel)
set_option maxRecDepth 20000 in
theorem gX2_chainLength_X2_chainOf : GoodIn wsX2_chainLength (wsV RX2 39 RX2 yX2_chainOf wsX2_chainOf) := goodIn_app (goodIn_of _ (by decide +kernel)) ggX2_chainLength_X2_chainOf
set_option maxRecDepth 20000 in
theorem ggX2_chainLength_J6_bitCount_0f7a4 : GoodIn wsX2_chainLength wsJ6_bitCount_0f7a4 := goodIn_r _ [18, 19, 20, 21] (by decide +kernel) (by decide +kernel)
set_option maxRecDepth 20000 in
theorem gX2_chainLength_J6_bitCount_0f7a4 : GoodIn wsX2_chainLength (va_wsS RX2 43 yJ6_bitCount_0f7a4 wsJ6_bitCount_0f7a4) := goodIn_app (goodIn_of _ (by decide +kernel)) ggX2_chainLength_J6_bitCount_0f7a4
theorem dX2_chainLength_0 : decode cX2_chainLength 0 = .ok (.iload_n 1, 1) := by decide +kernel
theorem dX2_chainLength_1 : decode cX2_chainLength 1 = .ok (.ifCond .ge 7, 3) := by decide +kernel
theorem dX2_chainLength_4 : decode cX2_chainLength 4 = .ok (.iconst 0, 1) := by decide +kernel
theorem dX2_chainLength_5 : decode cX2_chainLength 5 = .ok (.goto 11, 3) := by decide +kernel
theorem dX2_chainLength_8 : decode cX2_chainLength 8 = .ok (.aload_n 0, 1) := by decide +kernel
theorem dX2_chainLength_9 : decode cX2_chainLength 9 = .ok (.iload_n 1, 1) := by decide +kernel
theorem dX2_chainLength_10 : decode cX2_chainLength 10 = .ok (.invokevirtual 39, 3) := by decide +kernel
theorem dX2_chainLength_13 : decode cX2_chainLength 13 = .ok (.invokestatic 43, 3) := by decide +kernel
theorem dX2_chainLength_16 : decode cX2_chainLength 16 = .ok (.ireturn, 1) := by decide +kernel
set_option maxRecDepth 20000 in
theorem ggX2_approversOf_X3_get : GoodIn wsX2_approversOf wsX3_get := goodIn_r _ [6, 7, 8, 9, 11, 12, 13, 14] (by decide +kernel) (by decide +kernel)
set_option maxRecDepth 20000 in
theorem gX2_approversOf_X3_get : GoodIn wsX2_approversOf (wsV RX2 24 RX3 yX3_get wsX3_get) := goodIn_app (goodIn_of _ (by decide +kernel)) ggX2_approversOf_X3_get
theorem dX2_approversOf_0 : decode cX2_approversOf 0 = .ok (.iconst 0, 1) := by decide +kernel
theorem dX2_approversOf_1 : decode cX2_approversOf 1 = .ok (.istore_n 2, 1) := by decide +kernel
theorem dX2_approversOf_2 : decode cX2_approversOf 2 = .ok (.aload_n 0, 1) := by decide +kernel
theorem dX2_approversOf_3 : decode cX2_approversOf 3 = .ok (.getfield 16, 3) := by decide +kernel
theorem dX2_approversOf_6 : decode cX2_approversOf 6 = .ok (.iload_n 1, 1) := by decide +kernel
theorem dX2_approversOf_7 : decode cX2_approversOf 7 = .ok (.iconst 0, 1) := by decide +kernel
theorem dX2_approversOf_8 : decode cX2_approversOf 8 = .ok (.invokevirtual 24, 3) := by decide +kernel
theorem dX2_approversOf_11 : decode cX2_approversOf 11 = .ok (.istore_n 3, 1) := by decide +kernel
theorem dX2_approversOf_12 : decode cX2_approversOf 12 = .ok (.iconst 0, 1) := by decide +kernel
theorem dX2_approversOf_13 : decode cX2_approversOf 13 = .ok (.istore 4, 2) := by decide +kernel
theorem dX2_approversOf_15 : decode cX2_approversOf 15 = .ok (.iload 4, 2) := by decide +kernel
theorem dX2_approversOf_17 : decode cX2_approversOf 17 = .ok (.bipush 12, 2) := by decide +kernel
theorem dX2_approversOf_19 : decode cX2_approversOf 19 = .ok (.if_icmp .ge 37, 3) := by decide +kernel
theorem dX2_approversOf_22 : decode cX2_approversOf 22 = .ok (.iload_n 3, 1) := by decide +kernel
theorem dX2_approversOf_23 : decode cX2_approversOf 23 = .ok (.ifCond .lt 33, 3) := by decide +kernel
theorem dX2_approversOf_26 : decode cX2_approversOf 26 = .ok (.iload_n 2, 1) := by decide +kernel
theorem dX2_approversOf_27 : decode cX2_approversOf 27 = .ok (.iconst 1, 1) := by decide +kernel
theorem dX2_approversOf_28 : decode cX2_approversOf 28 = .ok (.aload_n 0, 1) := by decide +kernel
theorem dX2_approversOf_29 : decode cX2_approversOf 29 = .ok (.getfield 16, 3) := by decide +kernel
theorem dX2_approversOf_32 : decode cX2_approversOf 32 = .ok (.iload_n 3, 1) := by decide +kernel
theorem dX2_approversOf_33 : decode cX2_approversOf 33 = .ok (.iconst 1, 1) := by decide +kernel
theorem dX2_approversOf_34 : decode cX2_approversOf 34 = .ok (.invokevirtual 24, 3) := by decide +kernel
theorem dX2_approversOf_37 : decode cX2_approversOf 37 = .ok (.ishl, 1) := by decide +kernel
theorem dX2_approversOf_38 : decode cX2_approversOf 38 = .ok (.ior, 1) := by decide +kernel
theorem dX2_approversOf_39 : decode cX2_approversOf 39 = .ok (.istore_n 2, 1) := by decide +kernel
theorem dX2_approversOf_40 : decode cX2_approversOf 40 = .ok (.aload_n 0, 1) := by decide +kernel
theorem dX2_approversOf_41 : decode cX2_approversOf 41 = .ok (.getfield 16, 3) := by decide +kernel
theorem dX2_approversOf_44 : decode cX2_approversOf 44 = .ok (.iload_n 3, 1) := by decide +kernel
theorem dX2_approversOf_45 : decode cX2_approversOf 45 = .ok (.iconst 0, 1) := by decide +kernel
theorem dX2_approversOf_46 : decode cX2_approversOf 46 = .ok (.invokevirtual 24, 3) := by decide +kernel
theorem dX2_approversOf_49 : decode cX2_approversOf 49 = .ok (.istore_n 3, 1) := by decide +kernel
theorem dX2_approversOf_50 : decode cX2_approversOf 50 = .ok (.iinc 4 1, 3) := by decide +kernel
theorem dX2_approversOf_53 : decode cX2_approversOf 53 = .ok (.goto (-38), 3) := by decide +kernel
theorem dX2_approversOf_56 : decode cX2_approversOf 56 = .ok (.iload_n 2, 1) := by decide +kernel
theorem dX2_approversOf_57 : decode cX2_approversOf 57 = .ok (.iconst 1, 1) := by decide +kernel
theorem dX2_approversOf_58 : decode cX2_approversOf 58 = .ok (.aload_n 0, 1) := by decide +kernel
theorem dX2_approversOf_59 : decode cX2_approversOf 59 = .ok (.getfield 16, 3) := by decide +kernel
theorem dX2_approversOf_62 : decode cX2_approversOf 62 = .ok (.iload_n 1, 1) := by decide +kernel
theorem dX2_approversOf_63 : decode cX2_approversOf 63 = .ok (.iconst 1, 1) := by decide +kernel
theorem dX2_approversOf_64 : decode cX2_approversOf 64 = .ok (.invokevirtual 24, 3) := by decide +kernel
theorem dX2_approversOf_67 : decode cX2_approversOf 67 = .ok (.ishl, 1) := by decide +kernel
theorem dX2_approversOf_68 : decode cX2_approversOf 68 = .ok (.iconst (-1), 1) := by decide +kernel
theorem dX2_approversOf_69 : decode cX2_approversOf 69 = .ok (.ixor, 1) := by decide +kernel
theorem dX2_approversOf_70 : decode cX2_approversOf 70 = .ok (.iand, 1) := by decide +kernel
theorem dX2_approversOf_71 : decode cX2_approversOf 71 = .ok (.ireturn, 1) := by decide +kernel
set_option maxRecDepth 20000 in
theorem ggX2_wouldLapse_X2_stands : GoodIn wsX2_wouldLapse wsX2_stands := goodIn_r _ [6, 1, 7, 8, 9, 5, 10, 11, 12, 13, 14, 15, 16, 17, 18, 22, 23, 24, 25, 26] (by decide +kernel) (by decide +kernel)
set_option maxRecDepth 20000 in
theorem gX2_wouldLapse_X2_stands : GoodIn wsX2_wouldLapse (wsV RX2 48 RX2 yX2_stands wsX2_stands) := goodIn_app (goodIn_of _ (by decide +kernel)) ggX2_wouldLapse_X2_stands
set_option maxRecDepth 20000 in
theorem ggX2_wouldLapse_X2_total : GoodIn wsX2_wouldLapse wsX2_total := goodIn_r _ [10, 1, 22, 23, 24, 25, 26] (by decide +kernel) (by decide +kernel)
set_option maxRecDepth 20000 in
theorem gX2_wouldLapse_X2_total : GoodIn wsX2_wouldLapse (wsV RX2 36 RX2 yX2_total wsX2_total) := goodIn_app (goodIn_of _ (by decide +kernel)) ggX2_wouldLapse_X2_total
set_option maxRecDepth 20000 in
theorem ggX2_wouldLapse_X3_get : GoodIn wsX2_wouldLapse wsX3_get := goodIn_r _ [15, 16, 17, 18, 23, 24, 25, 26] (by decide +kernel) (by decide +kernel)
set_option maxRecDepth 20000 in
theorem gX2_wouldLapse_X3_get : GoodIn wsX2_wouldLapse (wsV RX2 24 RX3 yX3_get wsX3_get) := goodIn_app (goodIn_of _ (by decide +kernel)) ggX2_wouldLapse_X3_get
set_option maxRecDepth 20000 in
theorem ggX2_wouldLapse_X2_isIn : GoodIn wsX2_wouldLapse wsX2_isIn := goodIn_r _ [21] (by decide +kernel) (by decide +kernel)
set_option maxRecDepth 20000 in
theorem gX2_wouldLapse_X2_isIn : GoodIn wsX2_wouldLapse (va_wsS RX2 52 yX2_isIn wsX2_isIn) := goodIn_app (goodIn_of _ (by decide +kernel)) ggX2_wouldLapse_X2_isIn
theorem dX2_wouldLapse_0 : decode cX2_wouldLapse 0 = .ok (.aload_n 0, 1) := by decide +kernel
theorem dX2_wouldLapse_1 : decode cX2_wouldLapse 1 = .ok (.iload_n 1, 1) := by decide +kernel
theorem dX2_wouldLapse_2 : decode cX2_wouldLapse 2 = .ok (.invokevirtual 48, 3) := by decide +kernel
theorem dX2_wouldLapse_5 : decode cX2_wouldLapse 5 = .ok (.ifCond .ne 5, 3) := by decide +kernel
theorem dX2_wouldLapse_8 : decode cX2_wouldLapse 8 = .ok (.iconst 0, 1) := by decide +kernel
theorem dX2_wouldLapse_9 : decode cX2_wouldLapse 9 = .ok (.ireturn, 1) := by decide +kernel
theorem dX2_wouldLapse_10 : decode cX2_wouldLapse 10 = .ok (.iconst 1, 1) := by decide +kernel
theorem dX2_wouldLapse_11 : decode cX2_wouldLapse 11 = .ok (.iload_n 1, 1) := by decide +kernel
theorem dX2_wouldLapse_12 : decode cX2_wouldLapse 12 = .ok (.ishl, 1) := by decide +kernel
theorem dX2_wouldLapse_13 : decode cX2_wouldLapse 13 = .ok (.istore_n 2, 1) := by decide +kernel
theorem dX2_wouldLapse_14 : decode cX2_wouldLapse 14 = .ok (.iload_n 1, 1) := by decide +kernel
theorem dX2_wouldLapse_15 : decode cX2_wouldLapse 15 = .ok (.iconst 1, 1) := by decide +kernel
theorem dX2_wouldLapse_16 : decode cX2_wouldLapse 16 = .ok (.iadd, 1) := by decide +kernel
theorem dX2_wouldLapse_17 : decode cX2_wouldLapse 17 = .ok (.istore_n 3, 1) := by decide +kernel
theorem dX2_wouldLapse_18 : decode cX2_wouldLapse 18 = .ok (.iload_n 3, 1) := by decide +kernel
theorem dX2_wouldLapse_19 : decode cX2_wouldLapse 19 = .ok (.aload_n 0, 1) := by decide +kernel
theorem dX2_wouldLapse_20 : decode cX2_wouldLapse 20 = .ok (.invokevirtual 36, 3) := by decide +kernel
theorem dX2_wouldLapse_23 : decode cX2_wouldLapse 23 = .ok (.if_icmp .ge 39, 3) := by decide +kernel
theorem dX2_wouldLapse_26 : decode cX2_wouldLapse 26 = .ok (.aload_n 0, 1) := by decide +kernel
theorem dX2_wouldLapse_27 : decode cX2_wouldLapse 27 = .ok (.iload_n 3, 1) := by decide +kernel
theorem dX2_wouldLapse_28 : decode cX2_wouldLapse 28 = .ok (.invokevirtual 48, 3) := by decide +kernel
theorem dX2_wouldLapse_31 : decode cX2_wouldLapse 31 = .ok (.ifCond .eq 25, 3) := by decide +kernel
theorem dX2_wouldLapse_34 : decode cX2_wouldLapse 34 = .ok (.iload_n 2, 1) := by decide +kernel
theorem dX2_wouldLapse_35 : decode cX2_wouldLapse 35 = .ok (.aload_n 0, 1) := by decide +kernel
theorem dX2_wouldLapse_36 : decode cX2_wouldLapse 36 = .ok (.getfield 16, 3) := by decide +kernel
theorem dX2_wouldLapse_39 : decode cX2_wouldLapse 39 = .ok (.iload_n 3, 1) := by decide +kernel
theorem dX2_wouldLapse_40 : decode cX2_wouldLapse 40 = .ok (.iconst 0, 1) := by decide +kernel
theorem dX2_wouldLapse_41 : decode cX2_wouldLapse 41 = .ok (.invokevirtual 24, 3) := by decide +kernel
theorem dX2_wouldLapse_44 : decode cX2_wouldLapse 44 = .ok (.invokestatic 52, 3) := by decide +kernel
theorem dX2_wouldLapse_47 : decode cX2_wouldLapse 47 = .ok (.ifCond .eq 9, 3) := by decide +kernel
theorem dX2_wouldLapse_50 : decode cX2_wouldLapse 50 = .ok (.iload_n 2, 1) := by decide +kernel
theorem dX2_wouldLapse_51 : decode cX2_wouldLapse 51 = .ok (.iconst 1, 1) := by decide +kernel
theorem dX2_wouldLapse_52 : decode cX2_wouldLapse 52 = .ok (.iload_n 3, 1) := by decide +kernel
theorem dX2_wouldLapse_53 : decode cX2_wouldLapse 53 = .ok (.ishl, 1) := by decide +kernel
theorem dX2_wouldLapse_54 : decode cX2_wouldLapse 54 = .ok (.ior, 1) := by decide +kernel
theorem dX2_wouldLapse_55 : decode cX2_wouldLapse 55 = .ok (.istore_n 2, 1) := by decide +kernel
theorem dX2_wouldLapse_56 : decode cX2_wouldLapse 56 = .ok (.iinc 3 1, 3) := by decide +kernel
theorem dX2_wouldLapse_59 : decode cX2_wouldLapse 59 = .ok (.goto (-41), 3) := by decide +kernel
theorem dX2_wouldLapse_62 : decode cX2_wouldLapse 62 = .ok (.iload_n 2, 1) := by decide +kernel
theorem dX2_wouldLapse_63 : decode cX2_wouldLapse 63 = .ok (.ireturn, 1) := by decide +kernel
set_option maxRecDepth 20000 in
theorem ggX2_standingUnder_X2_wouldLapse : GoodIn wsX2_standingUnder wsX2_wouldLapse := goodIn_r _ [9, 10, 11, 12, 13, 8, 14, 15, 16, 17, 18, 19, 20, 21, 22, 23, 24, 25, 26, 27, 28, 29, 37, 38, 39, 40, 41] (by decide +kernel) (by decide +kernel)
set_option maxRecDepth 20000 in
theorem gX2_standingUnder_X2_wouldLapse : GoodIn wsX2_standingUnder (wsV RX2 56 RX2 yX2_wouldLapse wsX2_wouldLapse) := goodIn_app (goodIn_of _ (by decide +kernel)) ggX2_standingUnder_X2_wouldLapse
set_option maxRecDepth 20000 in
theorem ggX2_standingUnder_J6_bitCount_0f7a4 : GoodIn wsX2_standingUnder wsJ6_bitCount_0f7a4 := goodIn_r _ [33, 34, 35, 36] (by decide +kernel) (by decide +kernel)
set_option maxRecDepth 20000 in
theorem gX2_standingUnder_J6_bitCount_0f7a4 : GoodIn wsX2_standingUnder (va_wsS RX2 43 yJ6_bitCount_0f7a4 wsJ6_bitCount_0f7a4) := goodIn_app (goodIn_of _ (by decide +kernel)) ggX2_standingUnder_J6_bitCount_0f7a4
theorem dX2_standingUnder_0 : decode cX2_standingUnder 0 = .ok (.iconst 0, 1) := by decide +kernel
theorem dX2_standingUnder_1 : decode cX2_standingUnder 1 = .ok (.aload_n 0, 1) := by decide +kernel
theorem dX2_standingUnder_2 : decode cX2_standingUnder 2 = .ok (.iload_n 1, 1) := by decide +kernel
theorem dX2_standingUnder_3 : decode cX2_standingUnder 3 = .ok (.invokevirtual 56, 3) := by decide +kernel
theorem dX2_standingUnder_6 : decode cX2_standingUnder 6 = .ok (.invokestatic 43, 3) := by decide +kernel
theorem dX2_standingUnder_9 : decode cX2_standingUnder 9 = .ok (.iconst 1, 1) := by decide +kernel
theorem dX2_standingUnder_10 : decode cX2_standingUnder 10 = .ok (.isub, 1) := by decide +kernel
theorem dX2_standingUnder_11 : decode cX2_standingUnder 11 = .ok (.invokestatic 59, 3) := by decide +kernel
theorem dX2_standingUnder_14 : decode cX2_standingUnder 14 = .ok (.ireturn, 1) := by decide +kernel
set_option maxRecDepth 20000 in
theorem ggX2_lapseAll_X2_total : GoodIn wsX2_lapseAll wsX2_total := goodIn_r _ [6, 1, 18, 19, 20, 21, 22] (by decide +kernel) (by decide +kernel)
set_option maxRecDepth 20000 in
theorem gX2_lapseAll_X2_total : GoodIn wsX2_lapseAll (wsV RX2 36 RX2 yX2_total wsX2_total) := goodIn_app (goodIn_of _ (by decide +kernel)) ggX2_lapseAll_X2_total
set_option maxRecDepth 20000 in
theorem ggX2_lapseAll_X2_isIn : GoodIn wsX2_lapseAll wsX2_isIn := goodIn_r _ [9] (by decide +kernel) (by decide +kernel)
set_option maxRecDepth 20000 in
theorem gX2_lapseAll_X2_isIn : GoodIn wsX2_lapseAll (va_wsS RX2 52 yX2_isIn wsX2_isIn) := goodIn_app (goodIn_of _ (by decide +kernel)) ggX2_lapseAll_X2_isIn
set_option maxRecDepth 20000 in
theorem ggX2_lapseAll_X3_put : GoodIn wsX2_lapseAll wsX3_put := goodIn_r _ [14, 15, 16, 17, 19, 20, 21, 22] (by decide +kernel) (by decide +kernel)
set_option maxRecDepth 20000 in
theorem gX2_lapseAll_X3_put : GoodIn wsX2_lapseAll (wsV RX2 28 RX3 yX3_put wsX3_put) := goodIn_app (goodIn_of _ (by decide +kernel)) ggX2_lapseAll_X3_put
theorem dX2_lapseAll_0 : decode cX2_lapseAll 0 = .ok (.iconst 0, 1) := by decide +kernel
theorem dX2_lapseAll_1 : decode cX2_lapseAll 1 = .ok (.istore_n 3, 1) := by decide +kernel
theorem dX2_lapseAll_2 : decode cX2_lapseAll 2 = .ok (.iload_n 3, 1) := by decide +kernel
theorem dX2_lapseAll_3 : decode cX2_lapseAll 3 = .ok (.aload_n 0, 1) := by decide +kernel
theorem dX2_lapseAll_4 : decode cX2_lapseAll 4 = .ok (.invokevirtual 36, 3) := by decide +kernel
theorem dX2_lapseAll_7 : decode cX2_lapseAll 7 = .ok (.if_icmp .ge 27, 3) := by decide +kernel
theorem dX2_lapseAll_10 : decode cX2_lapseAll 10 = .ok (.iload_n 1, 1) := by decide +kernel
theorem dX2_lapseAll_11 : decode cX2_lapseAll 11 = .ok (.iload_n 3, 1) := by decide +kernel
theorem dX2_lapseAll_12 : decode cX2_lapseAll 12 = .ok (.invokestatic 52, 3) := by decide +kernel
theorem dX2_lapseAll_15 : decode cX2_lapseAll 15 = .ok (.ifCond .eq 13, 3) := by decide +kernel
theorem dX2_lapseAll_18 : decode cX2_lapseAll 18 = .ok (.aload_n 0, 1) := by decide +kernel
theorem dX2_lapseAll_19 : decode cX2_lapseAll 19 = .ok (.getfield 16, 3) := by decide +kernel
theorem dX2_lapseAll_22 : decode cX2_lapseAll 22 = .ok (.iload_n 3, 1) := by decide +kernel
theorem dX2_lapseAll_23 : decode cX2_lapseAll 23 = .ok (.iconst 5, 1) := by decide +kernel
theorem dX2_lapseAll_24 : decode cX2_lapseAll 24 = .ok (.iload_n 2, 1) := by decide +kernel
theorem dX2_lapseAll_25 : decode cX2_lapseAll 25 = .ok (.invokevirtual 28, 3) := by decide +kernel
theorem dX2_lapseAll_28 : decode cX2_lapseAll 28 = .ok (.iinc 3 1, 3) := by decide +kernel
theorem dX2_lapseAll_31 : decode cX2_lapseAll 31 = .ok (.goto (-29), 3) := by decide +kernel
theorem dX2_lapseAll_34 : decode cX2_lapseAll 34 = .ok (.return_, 1) := by decide +kernel
set_option maxRecDepth 20000 in
theorem ggX2_fitsUnder_X3_get : GoodIn wsX2_fitsUnder wsX3_get := goodIn_r _ [6, 7, 8, 9, 11, 12, 13, 14] (by decide +kernel) (by decide +kernel)
set_option maxRecDepth 20000 in
theorem gX2_fitsUnder_X3_get : GoodIn wsX2_fitsUnder (wsV RX2 24 RX3 yX3_get wsX3_get) := goodIn_app (goodIn_of _ (by decide +kernel)) ggX2_fitsUnder_X3_get
theorem dX2_fitsUnder_0 : decode cX2_fitsUnder 0 = .ok (.iload_n 1, 1) := by decide +kernel
theorem dX2_fitsUnder_1 : decode cX2_fitsUnder 1 = .ok (.iconst (-1), 1) := by decide +kernel
theorem dX2_fitsUnder_2 : decode cX2_fitsUnder 2 = .ok (.if_icmp .eq 29, 3) := by decide +kernel
theorem dX2_fitsUnder_5 : decode cX2_fitsUnder 5 = .ok (.iload_n 2, 1) := by decide +kernel
theorem dX2_fitsUnder_6 : decode cX2_fitsUnder 6 = .ok (.aload_n 0, 1) := by decide +kernel
theorem dX2_fitsUnder_7 : decode cX2_fitsUnder 7 = .ok (.getfield 16, 3) := by decide +kernel
theorem dX2_fitsUnder_10 : decode cX2_fitsUnder 10 = .ok (.iload_n 1, 1) := by decide +kernel
theorem dX2_fitsUnder_11 : decode cX2_fitsUnder 11 = .ok (.iconst 2, 1) := by decide +kernel
theorem dX2_fitsUnder_12 : decode cX2_fitsUnder 12 = .ok (.invokevirtual 24, 3) := by decide +kernel
theorem dX2_fitsUnder_15 : decode cX2_fitsUnder 15 = .ok (.if_icmp .gt 20, 3) := by decide +kernel
theorem dX2_fitsUnder_18 : decode cX2_fitsUnder 18 = .ok (.iload_n 3, 1) := by decide +kernel
theorem dX2_fitsUnder_19 : decode cX2_fitsUnder 19 = .ok (.aload_n 0, 1) := by decide +kernel
theorem dX2_fitsUnder_20 : decode cX2_fitsUnder 20 = .ok (.getfield 16, 3) := by decide +kernel
theorem dX2_fitsUnder_23 : decode cX2_fitsUnder 23 = .ok (.iload_n 1, 1) := by decide +kernel
theorem dX2_fitsUnder_24 : decode cX2_fitsUnder 24 = .ok (.iconst 3, 1) := by decide +kernel
theorem dX2_fitsUnder_25 : decode cX2_fitsUnder 25 = .ok (.invokevirtual 24, 3) := by decide +kernel
theorem dX2_fitsUnder_28 : decode cX2_fitsUnder 28 = .ok (.if_icmp .gt 7, 3) := by decide +kernel
theorem dX2_fitsUnder_31 : decode cX2_fitsUnder 31 = .ok (.iconst 1, 1) := by decide +kernel
theorem dX2_fitsUnder_32 : decode cX2_fitsUnder 32 = .ok (.goto 4, 3) := by decide +kernel
theorem dX2_fitsUnder_35 : decode cX2_fitsUnder 35 = .ok (.iconst 0, 1) := by decide +kernel
theorem dX2_fitsUnder_36 : decode cX2_fitsUnder 36 = .ok (.ireturn, 1) := by decide +kernel
set_option maxRecDepth 20000 in
theorem ggX2_canHaveLimits_X3_get : GoodIn wsX2_canHaveLimits wsX3_get := goodIn_r _ [6, 7, 8, 9, 24, 25, 26, 27] (by decide +kernel) (by decide +kernel)
set_option maxRecDepth 20000 in
theorem gX2_canHaveLimits_X3_get : GoodIn wsX2_canHaveLimits (wsV RX2 24 RX3 yX3_get wsX3_get) := goodIn_app (goodIn_of _ (by decide +kernel)) ggX2_canHaveLimits_X3_get
set_option maxRecDepth 20000 in
theorem ggX2_canHaveLimits_X2_fitsUnder : GoodIn wsX2_canHaveLimits wsX2_fitsUnder := goodIn_r _ [14, 1, 2, 3, 4, 5, 6, 7, 8, 9, 23, 24, 25, 26, 27] (by decide +kernel) (by decide +kernel)
set_option maxRecDepth 20000 in
theorem gX2_canHaveLimits_X2_fitsUnder : GoodIn wsX2_canHaveLimits (wsV RX2 64 RX2 yX2_fitsUnder wsX2_fitsUnder) := goodIn_app (goodIn_of _ (by decide +kernel)) ggX2_canHaveLimits_X2_fitsUnder
set_option maxRecDepth 20000 in
theorem ggX2_canHaveLimits_X2_total : GoodIn wsX2_canHaveLimits wsX2_total := goodIn_r _ [18, 1, 23, 24, 25, 26, 27] (by decide +kernel) (by decide +kernel)
set_option maxRecDepth 20000 in
theorem gX2_canHaveLimits_X2_total : GoodIn wsX2_canHaveLimits (wsV RX2 36 RX2 yX2_total wsX2_total) := goodIn_app (goodIn_of _ (by decide +kernel)) ggX2_canHaveLimits_X2_total
set_option maxRecDepth 20000 in
theorem ggX2_canHaveLimits_X2_stands : GoodIn wsX2_canHaveLimits wsX2_stands := goodIn_r _ [22, 1, 15, 16, 17, 13, 18, 2, 3, 4, 5, 6, 7, 8, 9, 23, 24, 25, 26, 27] (by decide +kernel) (by decide +kernel)
set_option maxRecDepth 20000 in
theorem gX2_canHaveLimits_X2_stands : GoodIn wsX2_canHaveLimits (wsV RX2 48 RX2 yX2_stands wsX2_stands) := goodIn_app (goodIn_of _ (by decide +kernel)) ggX2_canHaveLimits_X2_stands
theorem dX2_canHaveLimits_0 : decode cX2_canHaveLimits 0 = .ok (.aload_n 0, 1) := by decide +kernel
theorem dX2_canHaveLimits_1 : decode cX2_canHaveLimits 1 = .ok (.aload_n 0, 1) := by decide +kernel
theorem dX2_canHaveLimits_2 : decode cX2_canHaveLimits 2 = .ok (.getfield 16, 3) := by decide +kernel
theorem dX2_canHaveLimits_5 : decode cX2_canHaveLimits 5 = .ok (.iload_n 1, 1) := by decide +kernel
theorem dX2_canHaveLimits_6 : decode cX2_canHaveLimits 6 = .ok (.iconst 0, 1) := by decide +kernel
theorem dX2_canHaveLimits_7 : decode cX2_canHaveLimits 7 = .ok (.invokevirtual 24, 3) := by decide +kernel
theorem dX2_canHaveLimits_10 : decode cX2_canHaveLimits 10 = .ok (.iload_n 2, 1) := by decide +kernel
theorem dX2_canHaveLimits_11 : decode cX2_canHaveLimits 11 = .ok (.iload_n 3, 1) := by decide +kernel
theorem dX2_canHaveLimits_12 : decode cX2_canHaveLimits 12 = .ok (.invokevirtual 64, 3) := by decide +kernel
theorem dX2_canHaveLimits_15 : decode cX2_canHaveLimits 15 = .ok (.ifCond .ne 5, 3) := by decide +kernel
theorem dX2_canHaveLimits_18 : decode cX2_canHaveLimits 18 = .ok (.iconst 0, 1) := by decide +kernel
theorem dX2_canHaveLimits_19 : decode cX2_canHaveLimits 19 = .ok (.ireturn, 1) := by decide +kernel
theorem dX2_canHaveLimits_20 : decode cX2_canHaveLimits 20 = .ok (.iload_n 1, 1) := by decide +kernel
theorem dX2_canHaveLimits_21 : decode cX2_canHaveLimits 21 = .ok (.iconst 1, 1) := by decide +kernel
theorem dX2_canHaveLimits_22 : decode cX2_canHaveLimits 22 = .ok (.iadd, 1) := by decide +kernel
theorem dX2_canHaveLimits_23 : decode cX2_canHaveLimits 23 = .ok (.istore 4, 2) := by decide +kernel
theorem dX2_canHaveLimits_25 : decode cX2_canHaveLimits 25 = .ok (.iload 4, 2) := by decide +kernel
theorem dX2_canHaveLimits_27 : decode cX2_canHaveLimits 27 = .ok (.aload_n 0, 1) := by decide +kernel
theorem dX2_canHaveLimits_28 : decode cX2_canHaveLimits 28 = .ok (.invokevirtual 36, 3) := by decide +kernel
theorem dX2_canHaveLimits_31 : decode cX2_canHaveLimits 31 = .ok (.if_icmp .ge 74, 3) := by decide +kernel
theorem dX2_canHaveLimits_34 : decode cX2_canHaveLimits 34 = .ok (.aload_n 0, 1) := by decide +kernel
theorem dX2_canHaveLimits_35 : decode cX2_canHaveLimits 35 = .ok (.getfield 16, 3) := by decide +kernel
theorem dX2_canHaveLimits_38 : decode cX2_canHaveLimits 38 = .ok (.iload 4, 2) := by decide +kernel
theorem dX2_canHaveLimits_40 : decode cX2_canHaveLimits 40 = .ok (.iconst 0, 1) := by decide +kernel
theorem dX2_canHaveLimits_41 : decode cX2_canHaveLimits 41 = .ok (.invokevirtual 24, 3) := by decide +kernel
theorem dX2_canHaveLimits_44 : decode cX2_canHaveLimits 44 = .ok (.iload_n 1, 1) := by decide +kernel
theorem dX2_canHaveLimits_45 : decode cX2_canHaveLimits 45 = .ok (.if_icmp .ne 16, 3) := by decide +kernel
theorem dX2_canHaveLimits_48 : decode cX2_canHaveLimits 48 = .ok (.aload_n 0, 1) := by decide +kernel
theorem dX2_canHaveLimits_49 : decode cX2_canHaveLimits 49 = .ok (.iload 4, 2) := by decide +kernel
theorem dX2_canHaveLimits_51 : decode cX2_canHaveLimits 51 = .ok (.invokevirtual 48, 3) := by decide +kernel
theorem dX2_canHaveLimits_54 : decode cX2_canHaveLimits 54 = .ok (.ifCond .eq 7, 3) := by decide +kernel
theorem dX2_canHaveLimits_57 : decode cX2_canHaveLimits 57 = .ok (.iconst 1, 1) := by decide +kernel
theorem dX2_canHaveLimits_58 : decode cX2_canHaveLimits 58 = .ok (.goto 4, 3) := by decide +kernel
theorem dX2_canHaveLimits_61 : decode cX2_canHaveLimits 61 = .ok (.iconst 0, 1) := by decide +kernel
theorem dX2_canHaveLimits_62 : decode cX2_canHaveLimits 62 = .ok (.istore 5, 2) := by decide +kernel
theorem dX2_canHaveLimits_64 : decode cX2_canHaveLimits 64 = .ok (.iload 5, 2) := by decide +kernel
theorem dX2_canHaveLimits_66 : decode cX2_canHaveLimits 66 = .ok (.ifCond .eq 33, 3) := by decide +kernel
theorem dX2_canHaveLimits_69 : decode cX2_canHaveLimits 69 = .ok (.aload_n 0, 1) := by decide +kernel
theorem dX2_canHaveLimits_70 : decode cX2_canHaveLimits 70 = .ok (.getfield 16, 3) := by decide +kernel
theorem dX2_canHaveLimits_73 : decode cX2_canHaveLimits 73 = .ok (.iload 4, 2) := by decide +kernel
theorem dX2_canHaveLimits_75 : decode cX2_canHaveLimits 75 = .ok (.iconst 2, 1) := by decide +kernel
theorem dX2_canHaveLimits_76 : decode cX2_canHaveLimits 76 = .ok (.invokevirtual 24, 3) := by decide +kernel
theorem dX2_canHaveLimits_79 : decode cX2_canHaveLimits 79 = .ok (.iload_n 2, 1) := by decide +kernel
theorem dX2_canHaveLimits_80 : decode cX2_canHaveLimits 80 = .ok (.if_icmp .gt 17, 3) := by decide +kernel
theorem dX2_canHaveLimits_83 : decode cX2_canHaveLimits 83 = .ok (.aload_n 0, 1) := by decide +kernel
theorem dX2_canHaveLimits_84 : decode cX2_canHaveLimits 84 = .ok (.getfield 16, 3) := by decide +kernel
theorem dX2_canHaveLimits_87 : decode cX2_canHaveLimits 87 = .ok (.iload 4, 2) := by decide +kernel
theorem dX2_canHaveLimits_89 : decode cX2_canHaveLimits 89 = .ok (.iconst 3, 1) := by decide +kernel
theorem dX2_canHaveLimits_90 : decode cX2_canHaveLimits 90 = .ok (.invokevirtual 24, 3) := by decide +kernel
theorem dX2_canHaveLimits_93 : decode cX2_canHaveLimits 93 = .ok (.iload_n 3, 1) := by decide +kernel
theorem dX2_canHaveLimits_94 : decode cX2_canHaveLimits 94 = .ok (.if_icmp .le 5, 3) := by decide +kernel
theorem dX2_canHaveLimits_97 : decode cX2_canHaveLimits 97 = .ok (.iconst 0, 1) := by decide +kernel
theorem dX2_canHaveLimits_98 : decode cX2_canHaveLimits 98 = .ok (.ireturn, 1) := by decide +kernel
theorem dX2_canHaveLimits_99 : decode cX2_canHaveLimits 99 = .ok (.iinc 4 1, 3) := by decide +kernel
theorem dX2_canHaveLimits_102 : decode cX2_canHaveLimits 102 = .ok (.goto (-77), 3) := by decide +kernel
theorem dX2_canHaveLimits_105 : decode cX2_canHaveLimits 105 = .ok (.iconst 1, 1) := by decide +kernel
theorem dX2_canHaveLimits_106 : decode cX2_canHaveLimits 106 = .ok (.ireturn, 1) := by decide +kernel
set_option maxRecDepth 20000 in
theorem ggX2_changeLimits_X3_put : GoodIn wsX2_changeLimits wsX3_put := goodIn_r _ [6, 7, 8, 9, 20, 21, 22, 23] (by decide +kernel) (by decide +kernel)
set_option maxRecDepth 20000 in
theorem gX2_changeLimits_X3_put : GoodIn wsX2_changeLimits (wsV RX2 28 RX3 yX3_put wsX3_put) := goodIn_app (goodIn_of _ (by decide +kernel)) ggX2_changeLimits_X3_put
set_option maxRecDepth 20000 in
theorem ggX2_changeLimits_X2_exchange : GoodIn wsX2_changeLimits wsX2_exchange := goodIn_r _ [14, 1, 15, 16, 17, 5, 18, 7, 8, 9, 2, 3, 4, 6, 19, 20, 21, 22, 23] (by decide +kernel) (by decide +kernel)
set_option maxRecDepth 20000 in
theorem gX2_changeLimits_X2_exchange : GoodIn wsX2_changeLimits (wsV RX2 68 RX2 yX2_exchange wsX2_exchange) := goodIn_app (goodIn_of _ (by decide +kernel)) ggX2_changeLimits_X2_exchange
theorem dX2_changeLimits_0 : decode cX2_changeLimits 0 = .ok (.aload_n 0, 1) := by decide +kernel
theorem dX2_changeLimits_1 : decode cX2_changeLimits 1 = .ok (.getfield 16, 3) := by decide +kernel
theorem dX2_changeLimits_4 : decode cX2_changeLimits 4 = .ok (.iload_n 1, 1) := by decide +kernel
theorem dX2_changeLimits_5 : decode cX2_changeLimits 5 = .ok (.iconst 2, 1) := by decide +kernel
theorem dX2_changeLimits_6 : decode cX2_changeLimits 6 = .ok (.iload_n 2, 1) := by decide +kernel
theorem dX2_changeLimits_7 : decode cX2_changeLimits 7 = .ok (.invokevirtual 28, 3) := by decide +kernel
theorem dX2_changeLimits_10 : decode cX2_changeLimits 10 = .ok (.aload_n 0, 1) := by decide +kernel
theorem dX2_changeLimits_11 : decode cX2_changeLimits 11 = .ok (.iload_n 1, 1) := by decide +kernel
theorem dX2_changeLimits_12 : decode cX2_changeLimits 12 = .ok (.iconst 3, 1) := by decide +kernel
theorem dX2_changeLimits_13 : decode cX2_changeLimits 13 = .ok (.iload_n 3, 1) := by decide +kernel
theorem dX2_changeLimits_14 : decode cX2_changeLimits 14 = .ok (.invokevirtual 68, 3) := by decide +kernel
theorem dX2_changeLimits_17 : decode cX2_changeLimits 17 = .ok (.ireturn, 1) := by decide +kernel
set_option maxRecDepth 20000 in
theorem ggX2_refusal_X2_stands : GoodIn wsX2_refusal wsX2_stands := goodIn_r _ [6, 1, 7, 8, 9, 5, 10, 11, 12, 13, 14, 15, 16, 17, 18, 27, 28, 29, 30, 31] (by decide +kernel) (by decide +kernel)
set_option maxRecDepth 20000 in
theorem gX2_refusal_X2_stands : GoodIn wsX2_refusal (wsV RX2 48 RX2 yX2_stands wsX2_stands) := goodIn_app (goodIn_of _ (by decide +kernel)) ggX2_refusal_X2_stands
set_option maxRecDepth 20000 in
theorem ggX2_refusal_X3_get : GoodIn wsX2_refusal wsX3_get := goodIn_r _ [15, 16, 17, 18, 28, 29, 30, 31] (by decide +kernel) (by decide +kernel)
set_option maxRecDepth 20000 in
theorem gX2_refusal_X3_get : GoodIn wsX2_refusal (wsV RX2 24 RX3 yX3_get wsX3_get) := goodIn_app (goodIn_of _ (by decide +kernel)) ggX2_refusal_X3_get
set_option maxRecDepth 20000 in
theorem ggX2_refusal_X2_narrowestOfChain : GoodIn wsX2_refusal wsX2_narrowestOfChain := goodIn_r _ [22, 1, 23, 24, 25, 5, 26, 11, 12, 13, 14, 15, 16, 17, 18, 27, 28, 29, 30, 31] (by decide +kernel) (by decide +kernel)
set_option maxRecDepth 20000 in
theorem gX2_refusal_X2_narrowestOfChain : GoodIn wsX2_refusal (wsV RX2 72 RX2 yX2_narrowestOfChain wsX2_narrowestOfChain) := goodIn_app (goodIn_of _ (by decide +kernel)) ggX2_refusal_X2_narrowestOfChain
set_option maxRecDepth 20000 in
theorem ggX2_refusal_X2_leftFor : GoodIn wsX2_refusal wsX2_leftFor := goodIn_r _ [26, 1, 11, 12, 13, 14, 15, 16, 17, 18, 27, 28, 29, 30, 31] (by decide +kernel) (by decide +kernel)
set_option maxRecDepth 20000 in
theorem gX2_refusal_X2_leftFor : GoodIn wsX2_refusal (wsV RX2 75 RX2 yX2_leftFor wsX2_leftFor) := goodIn_app (goodIn_of _ (by decide +kernel)) ggX2_refusal_X2_leftFor
theorem dX2_refusal_0 : decode cX2_refusal 0 = .ok (.aload_n 0, 1) := by decide +kernel
theorem dX2_refusal_1 : decode cX2_refusal 1 = .ok (.iload_n 1, 1) := by decide +kernel
theorem dX2_refusal_2 : decode cX2_refusal 2 = .ok (.invokevirtual 48, 3) := by decide +kernel
theorem dX2_refusal_5 : decode cX2_refusal 5 = .ok (.ifCond .ne 5, 3) := by decide +kernel
theorem dX2_refusal_8 : decode cX2_refusal 8 = .ok (.iconst 1, 1) := by decide +kernel
theorem dX2_refusal_9 : decode cX2_refusal 9 = .ok (.ireturn, 1) := by decide +kernel
theorem dX2_refusal_10 : decode cX2_refusal 10 = .ok (.iload_n 2, 1) := by decide +kernel
theorem dX2_refusal_11 : decode cX2_refusal 11 = .ok (.aload_n 0, 1) := by decide +kernel
theorem dX2_refusal_12 : decode cX2_refusal 12 = .ok (.getfield 16, 3) := by decide +kernel
theorem dX2_refusal_15 : decode cX2_refusal 15 = .ok (.iload_n 1, 1) := by decide +kernel
theorem dX2_refusal_16 : decode cX2_refusal 16 = .ok (.iconst 2, 1) := by decide +kernel
theorem dX2_refusal_17 : decode cX2_refusal 17 = .ok (.invokevirtual 24, 3) := by decide +kernel
theorem dX2_refusal_20 : decode cX2_refusal 20 = .ok (.if_icmp .le 5, 3) := by decide +kernel
theorem dX2_refusal_23 : decode cX2_refusal 23 = .ok (.iconst 2, 1) := by decide +kernel
theorem dX2_refusal_24 : decode cX2_refusal 24 = .ok (.ireturn, 1) := by decide +kernel
theorem dX2_refusal_25 : decode cX2_refusal 25 = .ok (.iload_n 2, 1) := by decide +kernel
theorem dX2_refusal_26 : decode cX2_refusal 26 = .ok (.aload_n 0, 1) := by decide +kernel
theorem dX2_refusal_27 : decode cX2_refusal 27 = .ok (.aload_n 0, 1) := by decide +kernel
theorem dX2_refusal_28 : decode cX2_refusal 28 = .ok (.iload_n 1, 1) := by decide +kernel
theorem dX2_refusal_29 : decode cX2_refusal 29 = .ok (.invokevirtual 72, 3) := by decide +kernel
theorem dX2_refusal_32 : decode cX2_refusal 32 = .ok (.invokevirtual 75, 3) := by decide +kernel
theorem dX2_refusal_35 : decode cX2_refusal 35 = .ok (.if_icmp .le 7, 3) := by decide +kernel
theorem dX2_refusal_38 : decode cX2_refusal 38 = .ok (.iconst 3, 1) := by decide +kernel
theorem dX2_refusal_39 : decode cX2_refusal 39 = .ok (.goto 4, 3) := by decide +kernel
theorem dX2_refusal_42 : decode cX2_refusal 42 = .ok (.iconst 0, 1) := by decide +kernel
theorem dX2_refusal_43 : decode cX2_refusal 43 = .ok (.ireturn, 1) := by decide +kernel
set_option maxRecDepth 20000 in
theorem ggX2_mostUrgent_X3_get : GoodIn wsX2_mostUrgent wsX3_get := goodIn_r _ [6, 7, 8, 9, 11, 12, 13, 14] (by decide +kernel) (by decide +kernel)
set_option maxRecDepth 20000 in
theorem gX2_mostUrgent_X3_get : GoodIn wsX2_mostUrgent (wsV RX2 24 RX3 yX3_get wsX3_get) := goodIn_app (goodIn_of _ (by decide +kernel)) ggX2_mostUrgent_X3_get
theorem dX2_mostUrgent_0 : decode cX2_mostUrgent 0 = .ok (.aload_n 0, 1) := by decide +kernel
theorem dX2_mostUrgent_1 : decode cX2_mostUrgent 1 = .ok (.getfield 16, 3) := by decide +kernel
theorem dX2_mostUrgent_4 : decode cX2_mostUrgent 4 = .ok (.iload_n 1, 1) := by decide +kernel
theorem dX2_mostUrgent_5 : decode cX2_mostUrgent 5 = .ok (.iconst 2, 1) := by decide +kernel
theorem dX2_mostUrgent_6 : decode cX2_mostUrgent 6 = .ok (.invokevirtual 24, 3) := by decide +kernel
theorem dX2_mostUrgent_9 : decode cX2_mostUrgent 9 = .ok (.iconst 2, 1) := by decide +kernel
theorem dX2_mostUrgent_10 : decode cX2_mostUrgent 10 = .ok (.idiv, 1) := by decide +kernel
theorem dX2_mostUrgent_11 : decode cX2_mostUrgent 11 = .ok (.ireturn, 1) := by decide +kernel
set_option maxRecDepth 20000 in
theorem ggX2_greatestAmount_X2_stands : GoodIn wsX2_greatestAmount wsX2_stands := goodIn_r _ [13, 1, 14, 15, 16, 12, 17, 18, 19, 20, 21, 22, 23, 24, 25, 38, 39, 40, 41, 42] (by decide +kernel) (by decide +kernel)
set_option maxRecDepth 20000 in
theorem gX2_greatestAmount_X2_stands : GoodIn wsX2_greatestAmount (wsV RX2 48 RX2 yX2_stands wsX2_stands) := goodIn_app (goodIn_of _ (by decide +kernel)) ggX2_greatestAmount_X2_stands
set_option maxRecDepth 20000 in
theorem ggX2_greatestAmount_X2_mostUrgent : GoodIn wsX2_greatestAmount wsX2_mostUrgent := goodIn_r _ [29, 1, 18, 19, 20, 21, 22, 23, 24, 25, 38, 39, 40, 41, 42] (by decide +kernel) (by decide +kernel)
set_option maxRecDepth 20000 in
theorem gX2_greatestAmount_X2_mostUrgent : GoodIn wsX2_greatestAmount (wsV RX2 78 RX2 yX2_mostUrgent wsX2_mostUrgent) := goodIn_app (goodIn_of _ (by decide +kernel)) ggX2_greatestAmount_X2_mostUrgent
set_option maxRecDepth 20000 in
theorem ggX2_greatestAmount_X3_get : GoodIn wsX2_greatestAmount wsX3_get := goodIn_r _ [22, 23, 24, 25, 39, 40, 41, 42] (by decide +kernel) (by decide +kernel)
set_option maxRecDepth 20000 in
theorem gX2_greatestAmount_X3_get : GoodIn wsX2_greatestAmount (wsV RX2 24 RX3 yX3_get wsX3_get) := goodIn_app (goodIn_of _ (by decide +kernel)) ggX2_greatestAmount_X3_get
set_option maxRecDepth 20000 in
theorem ggX2_greatestAmount_X2_narrowestOfChain : GoodIn wsX2_greatestAmount wsX2_narrowestOfChain := goodIn_r _ [33, 1, 34, 35, 36, 12, 37, 18, 19, 20, 21, 22, 23, 24, 25, 38, 39, 40, 41, 42] (by decide +kernel) (by decide +kernel)
set_option maxRecDepth 20000 in
theorem gX2_greatestAmount_X2_narrowestOfChain : GoodIn wsX2_greatestAmount (wsV RX2 72 RX2 yX2_narrowestOfChain wsX2_narrowestOfChain) := goodIn_app (goodIn_of _ (by decide +kernel)) ggX2_greatestAmount_X2_narrowestOfChain
set_option maxRecDepth 20000 in
theorem ggX2_greatestAmount_X2_leftFor : GoodIn wsX2_greatestAmount wsX2_leftFor := goodIn_r _ [37, 1, 18, 19, 20, 21, 22, 23, 24, 25, 38, 39, 40, 41, 42] (by decide +kernel) (by decide +kernel)
set_option maxRecDepth 20000 in
theorem gX2_greatestAmount_X2_leftFor : GoodIn wsX2_greatestAmount (wsV RX2 75 RX2 yX2_leftFor wsX2_leftFor) := goodIn_app (goodIn_of _ (by decide +kernel)) ggX2_greatestAmount_X2_leftFor
theorem dX2_greatestAmount_0 : decode cX2_greatestAmount 0 = .ok (.aload_n 0, 1) := by decide +kernel
theorem dX2_greatestAmount_1 : decode cX2_greatestAmount 1 = .ok (.iload_n 1, 1) := by decide +kernel
theorem dX2_greatestAmount_2 : decode cX2_greatestAmount 2 = .ok (.invokevirtual 48, 3) := by decide +kernel
theorem dX2_greatestAmount_5 : decode cX2_greatestAmount 5 = .ok (.ifCond .ne 5, 3) := by decide +kernel
theorem dX2_greatestAmount_8 : decode cX2_greatestAmount 8 = .ok (.iconst 0, 1) := by decide +kernel
theorem dX2_greatestAmount_9 : decode cX2_greatestAmount 9 = .ok (.ireturn, 1) := by decide +kernel
theorem dX2_greatestAmount_10 : decode cX2_greatestAmount 10 = .ok (.iload_n 2, 1) := by decide +kernel
theorem dX2_greatestAmount_11 : decode cX2_greatestAmount 11 = .ok (.ifCond .eq 11, 3) := by decide +kernel
theorem dX2_greatestAmount_14 : decode cX2_greatestAmount 14 = .ok (.aload_n 0, 1) := by decide +kernel
theorem dX2_greatestAmount_15 : decode cX2_greatestAmount 15 = .ok (.iload_n 1, 1) := by decide +kernel
theorem dX2_greatestAmount_16 : decode cX2_greatestAmount 16 = .ok (.invokevirtual 78, 3) := by decide +kernel
theorem dX2_greatestAmount_19 : decode cX2_greatestAmount 19 = .ok (.goto 12, 3) := by decide +kernel
theorem dX2_greatestAmount_22 : decode cX2_greatestAmount 22 = .ok (.aload_n 0, 1) := by decide +kernel
theorem dX2_greatestAmount_23 : decode cX2_greatestAmount 23 = .ok (.getfield 16, 3) := by decide +kernel
theorem dX2_greatestAmount_26 : decode cX2_greatestAmount 26 = .ok (.iload_n 1, 1) := by decide +kernel
theorem dX2_greatestAmount_27 : decode cX2_greatestAmount 27 = .ok (.iconst 2, 1) := by decide +kernel
theorem dX2_greatestAmount_28 : decode cX2_greatestAmount 28 = .ok (.invokevirtual 24, 3) := by decide +kernel
theorem dX2_greatestAmount_31 : decode cX2_greatestAmount 31 = .ok (.istore_n 3, 1) := by decide +kernel
theorem dX2_greatestAmount_32 : decode cX2_greatestAmount 32 = .ok (.aload_n 0, 1) := by decide +kernel
theorem dX2_greatestAmount_33 : decode cX2_greatestAmount 33 = .ok (.aload_n 0, 1) := by decide +kernel
theorem dX2_greatestAmount_34 : decode cX2_greatestAmount 34 = .ok (.iload_n 1, 1) := by decide +kernel
theorem dX2_greatestAmount_35 : decode cX2_greatestAmount 35 = .ok (.invokevirtual 72, 3) := by decide +kernel
theorem dX2_greatestAmount_38 : decode cX2_greatestAmount 38 = .ok (.invokevirtual 75, 3) := by decide +kernel
theorem dX2_greatestAmount_41 : decode cX2_greatestAmount 41 = .ok (.istore 4, 2) := by decide +kernel
theorem dX2_greatestAmount_43 : decode cX2_greatestAmount 43 = .ok (.iconst 0, 1) := by decide +kernel
theorem dX2_greatestAmount_44 : decode cX2_greatestAmount 44 = .ok (.iload_n 3, 1) := by decide +kernel
theorem dX2_greatestAmount_45 : decode cX2_greatestAmount 45 = .ok (.iload 4, 2) := by decide +kernel
theorem dX2_greatestAmount_47 : decode cX2_greatestAmount 47 = .ok (.invokestatic 81, 3) := by decide +kernel
theorem dX2_greatestAmount_50 : decode cX2_greatestAmount 50 = .ok (.invokestatic 59, 3) := by decide +kernel
theorem dX2_greatestAmount_53 : decode cX2_greatestAmount 53 = .ok (.ireturn, 1) := by decide +kernel
set_option maxRecDepth 20000 in
theorem ggX2_leftFor_X3_get : GoodIn wsX2_leftFor wsX3_get := goodIn_r _ [6, 7, 8, 9, 11, 12, 13, 14] (by decide +kernel) (by decide +kernel)
set_option maxRecDepth 20000 in
theorem gX2_leftFor_X3_get : GoodIn wsX2_leftFor (wsV RX2 24 RX3 yX3_get wsX3_get) := goodIn_app (goodIn_of _ (by decide +kernel)) ggX2_leftFor_X3_get
theorem dX2_leftFor_0 : decode cX2_leftFor 0 = .ok (.aload_n 0, 1) := by decide +kernel
theorem dX2_leftFor_1 : decode cX2_leftFor 1 = .ok (.getfield 16, 3) := by decide +kernel
theorem dX2_leftFor_4 : decode cX2_leftFor 4 = .ok (.iload_n 1, 1) := by decide +kernel
theorem dX2_leftFor_5 : decode cX2_leftFor 5 = .ok (.iconst 3, 1) := by decide +kernel
theorem dX2_leftFor_6 : decode cX2_leftFor 6 = .ok (.invokevirtual 24, 3) := by decide +kernel
theorem dX2_leftFor_9 : decode cX2_leftFor 9 = .ok (.aload_n 0, 1) := by decide +kernel
theorem dX2_leftFor_10 : decode cX2_leftFor 10 = .ok (.getfield 16, 3) := by decide +kernel
theorem dX2_leftFor_13 : decode cX2_leftFor 13 = .ok (.iload_n 1, 1) := by decide +kernel
theorem dX2_leftFor_14 : decode cX2_leftFor 14 = .ok (.bipush 6, 2) := by decide +kernel
theorem dX2_leftFor_16 : decode cX2_leftFor 16 = .ok (.invokevirtual 24, 3) := by decide +kernel
theorem dX2_leftFor_19 : decode cX2_leftFor 19 = .ok (.isub, 1) := by decide +kernel
theorem dX2_leftFor_20 : decode cX2_leftFor 20 = .ok (.ireturn, 1) := by decide +kernel
set_option maxRecDepth 20000 in
theorem ggX2_narrowestOfChain_X2_leftFor : GoodIn wsX2_narrowestOfChain wsX2_leftFor := goodIn_r _ [6, 1, 7, 8, 9, 10, 11, 12, 13, 14, 15, 16, 17, 18, 19] (by decide +kernel) (by decide +kernel)
set_option maxRecDepth 20000 in
theorem gX2_narrowestOfChain_X2_leftFor : GoodIn wsX2_narrowestOfChain (wsV RX2 75 RX2 yX2_leftFor wsX2_leftFor) := goodIn_app (goodIn_of _ (by decide +kernel)) ggX2_narrowestOfChain_X2_leftFor
set_option maxRecDepth 20000 in
theorem ggX2_narrowestOfChain_X3_get : GoodIn wsX2_narrowestOfChain wsX3_get := goodIn_r _ [11, 12, 13, 14, 16, 17, 18, 19] (by decide +kernel) (by decide +kernel)
set_option maxRecDepth 20000 in
theorem gX2_narrowestOfChain_X3_get : GoodIn wsX2_narrowestOfChain (wsV RX2 24 RX3 yX3_get wsX3_get) := goodIn_app (goodIn_of _ (by decide +kernel)) ggX2_narrowestOfChain_X3_get
theorem dX2_narrowestOfChain_0 : decode cX2_narrowestOfChain 0 = .ok (.iload_n 1, 1) := by decide +kernel
theorem dX2_narrowestOfChain_1 : decode cX2_narrowestOfChain 1 = .ok (.istore_n 2, 1) := by decide +kernel
theorem dX2_narrowestOfChain_2 : decode cX2_narrowestOfChain 2 = .ok (.iload_n 1, 1) := by decide +kernel
theorem dX2_narrowestOfChain_3 : decode cX2_narrowestOfChain 3 = .ok (.istore_n 3, 1) := by decide +kernel
theorem dX2_narrowestOfChain_4 : decode cX2_narrowestOfChain 4 = .ok (.iconst 0, 1) := by decide +kernel
theorem dX2_narrowestOfChain_5 : decode cX2_narrowestOfChain 5 = .ok (.istore 4, 2) := by decide +kernel
theorem dX2_narrowestOfChain_7 : decode cX2_narrowestOfChain 7 = .ok (.iload 4, 2) := by decide +kernel
theorem dX2_narrowestOfChain_9 : decode cX2_narrowestOfChain 9 = .ok (.bipush 12, 2) := by decide +kernel
theorem dX2_narrowestOfChain_11 : decode cX2_narrowestOfChain 11 = .ok (.if_icmp .ge 38, 3) := by decide +kernel
theorem dX2_narrowestOfChain_14 : decode cX2_narrowestOfChain 14 = .ok (.iload_n 3, 1) := by decide +kernel
theorem dX2_narrowestOfChain_15 : decode cX2_narrowestOfChain 15 = .ok (.ifCond .lt 34, 3) := by decide +kernel
theorem dX2_narrowestOfChain_18 : decode cX2_narrowestOfChain 18 = .ok (.aload_n 0, 1) := by decide +kernel
theorem dX2_narrowestOfChain_19 : decode cX2_narrowestOfChain 19 = .ok (.iload_n 3, 1) := by decide +kernel
theorem dX2_narrowestOfChain_20 : decode cX2_narrowestOfChain 20 = .ok (.invokevirtual 75, 3) := by decide +kernel
theorem dX2_narrowestOfChain_23 : decode cX2_narrowestOfChain 23 = .ok (.aload_n 0, 1) := by decide +kernel
theorem dX2_narrowestOfChain_24 : decode cX2_narrowestOfChain 24 = .ok (.iload_n 2, 1) := by decide +kernel
theorem dX2_narrowestOfChain_25 : decode cX2_narrowestOfChain 25 = .ok (.invokevirtual 75, 3) := by decide +kernel
theorem dX2_narrowestOfChain_28 : decode cX2_narrowestOfChain 28 = .ok (.if_icmp .ge 5, 3) := by decide +kernel
theorem dX2_narrowestOfChain_31 : decode cX2_narrowestOfChain 31 = .ok (.iload_n 3, 1) := by decide +kernel
theorem dX2_narrowestOfChain_32 : decode cX2_narrowestOfChain 32 = .ok (.istore_n 2, 1) := by decide +kernel
theorem dX2_narrowestOfChain_33 : decode cX2_narrowestOfChain 33 = .ok (.aload_n 0, 1) := by decide +kernel
theorem dX2_narrowestOfChain_34 : decode cX2_narrowestOfChain 34 = .ok (.getfield 16, 3) := by decide +kernel
theorem dX2_narrowestOfChain_37 : decode cX2_narrowestOfChain 37 = .ok (.iload_n 3, 1) := by decide +kernel
theorem dX2_narrowestOfChain_38 : decode cX2_narrowestOfChain 38 = .ok (.iconst 0, 1) := by decide +kernel
theorem dX2_narrowestOfChain_39 : decode cX2_narrowestOfChain 39 = .ok (.invokevirtual 24, 3) := by decide +kernel
theorem dX2_narrowestOfChain_42 : decode cX2_narrowestOfChain 42 = .ok (.istore_n 3, 1) := by decide +kernel
theorem dX2_narrowestOfChain_43 : decode cX2_narrowestOfChain 43 = .ok (.iinc 4 1, 3) := by decide +kernel
theorem dX2_narrowestOfChain_46 : decode cX2_narrowestOfChain 46 = .ok (.goto (-39), 3) := by decide +kernel
theorem dX2_narrowestOfChain_49 : decode cX2_narrowestOfChain 49 = .ok (.iload_n 2, 1) := by decide +kernel
theorem dX2_narrowestOfChain_50 : decode cX2_narrowestOfChain 50 = .ok (.ireturn, 1) := by decide +kernel
set_option maxRecDepth 20000 in
theorem ggX2_shareUsed_X3_get : GoodIn wsX2_shareUsed wsX3_get := goodIn_r _ [6, 7, 8, 9, 11, 12, 13, 14] (by decide +kernel) (by decide +kernel)
set_option maxRecDepth 20000 in
theorem gX2_shareUsed_X3_get : GoodIn wsX2_shareUsed (wsV RX2 24 RX3 yX3_get wsX3_get) := goodIn_app (goodIn_of _ (by decide +kernel)) ggX2_shareUsed_X3_get
theorem dX2_shareUsed_0 : decode cX2_shareUsed 0 = .ok (.aload_n 0, 1) := by decide +kernel
theorem dX2_shareUsed_1 : decode cX2_shareUsed 1 = .ok (.getfield 16, 3) := by decide +kernel
theorem dX2_shareUsed_4 : decode cX2_shareUsed 4 = .ok (.iload_n 1, 1) := by decide +kernel
theorem dX2_shareUsed_5 : decode cX2_shareUsed 5 = .ok (.iconst 3, 1) := by decide +kernel
theorem dX2_shareUsed_6 : decode cX2_shareUsed 6 = .ok (.invokevirtual 24, 3) := by decide +kernel
theorem dX2_shareUsed_9 : decode cX2_shareUsed 9 = .ok (.istore_n 2, 1) := by decide +kernel
theorem dX2_shareUsed_10 : decode cX2_shareUsed 10 = .ok (.iload_n 2, 1) := by decide +kernel
theorem dX2_shareUsed_11 : decode cX2_shareUsed 11 = .ok (.ifCond .gt 7, 3) := by decide +kernel
theorem dX2_shareUsed_14 : decode cX2_shareUsed 14 = .ok (.dconst 0, 1) := by decide +kernel
theorem dX2_shareUsed_15 : decode cX2_shareUsed 15 = .ok (.goto 17, 3) := by decide +kernel
theorem dX2_shareUsed_18 : decode cX2_shareUsed 18 = .ok (.aload_n 0, 1) := by decide +kernel
theorem dX2_shareUsed_19 : decode cX2_shareUsed 19 = .ok (.getfield 16, 3) := by decide +kernel
theorem dX2_shareUsed_22 : decode cX2_shareUsed 22 = .ok (.iload_n 1, 1) := by decide +kernel
theorem dX2_shareUsed_23 : decode cX2_shareUsed 23 = .ok (.bipush 6, 2) := by decide +kernel
theorem dX2_shareUsed_25 : decode cX2_shareUsed 25 = .ok (.invokevirtual 24, 3) := by decide +kernel
theorem dX2_shareUsed_28 : decode cX2_shareUsed 28 = .ok (.i2d, 1) := by decide +kernel
theorem dX2_shareUsed_29 : decode cX2_shareUsed 29 = .ok (.iload_n 2, 1) := by decide +kernel
theorem dX2_shareUsed_30 : decode cX2_shareUsed 30 = .ok (.i2d, 1) := by decide +kernel
theorem dX2_shareUsed_31 : decode cX2_shareUsed 31 = .ok (.ddiv, 1) := by decide +kernel
theorem dX2_shareUsed_32 : decode cX2_shareUsed 32 = .ok (.dreturn, 1) := by decide +kernel
set_option maxRecDepth 20000 in
theorem ggX2_addSpending_X3_get : GoodIn wsX2_addSpending wsX3_get := goodIn_r _ [6, 7, 8, 9, 15, 16, 17, 18] (by decide +kernel) (by decide +kernel)
set_option maxRecDepth 20000 in
theorem gX2_addSpending_X3_get : GoodIn wsX2_addSpending (wsV RX2 24 RX3 yX3_get wsX3_get) := goodIn_app (goodIn_of _ (by decide +kernel)) ggX2_addSpending_X3_get
set_option maxRecDepth 20000 in
theorem ggX2_addSpending_X3_put : GoodIn wsX2_addSpending wsX3_put := goodIn_r _ [13, 7, 8, 9, 15, 16, 17, 18] (by decide +kernel) (by decide +kernel)
set_option maxRecDepth 20000 in
theorem gX2_addSpending_X3_put : GoodIn wsX2_addSpending (wsV RX2 28 RX3 yX3_put wsX3_put) := goodIn_app (goodIn_of _ (by decide +kernel)) ggX2_addSpending_X3_put
theorem dX2_addSpending_0 : decode cX2_addSpending 0 = .ok (.aload_n 0, 1) := by decide +kernel
theorem dX2_addSpending_1 : decode cX2_addSpending 1 = .ok (.getfield 16, 3) := by decide +kernel
theorem dX2_addSpending_4 : decode cX2_addSpending 4 = .ok (.iload_n 1, 1) := by decide +kernel
theorem dX2_addSpending_5 : decode cX2_addSpending 5 = .ok (.bipush 7, 2) := by decide +kernel
theorem dX2_addSpending_7 : decode cX2_addSpending 7 = .ok (.aload_n 0, 1) := by decide +kernel
theorem dX2_addSpending_8 : decode cX2_addSpending 8 = .ok (.getfield 16, 3) := by decide +kernel
theorem dX2_addSpending_11 : decode cX2_addSpending 11 = .ok (.iload_n 1, 1) := by decide +kernel
theorem dX2_addSpending_12 : decode cX2_addSpending 12 = .ok (.bipush 7, 2) := by decide +kernel
theorem dX2_addSpending_14 : decode cX2_addSpending 14 = .ok (.invokevirtual 24, 3) := by decide +kernel
theorem dX2_addSpending_17 : decode cX2_addSpending 17 = .ok (.iload_n 2, 1) := by decide +kernel
theorem dX2_addSpending_18 : decode cX2_addSpending 18 = .ok (.iadd, 1) := by decide +kernel
theorem dX2_addSpending_19 : decode cX2_addSpending 19 = .ok (.invokevirtual 28, 3) := by decide +kernel
theorem dX2_addSpending_22 : decode cX2_addSpending 22 = .ok (.iload_n 1, 1) := by decide +kernel
theorem dX2_addSpending_23 : decode cX2_addSpending 23 = .ok (.istore_n 3, 1) := by decide +kernel
theorem dX2_addSpending_24 : decode cX2_addSpending 24 = .ok (.iconst 0, 1) := by decide +kernel
theorem dX2_addSpending_25 : decode cX2_addSpending 25 = .ok (.istore 4, 2) := by decide +kernel
theorem dX2_addSpending_27 : decode cX2_addSpending 27 = .ok (.iload 4, 2) := by decide +kernel
theorem dX2_addSpending_29 : decode cX2_addSpending 29 = .ok (.bipush 12, 2) := by decide +kernel
theorem dX2_addSpending_31 : decode cX2_addSpending 31 = .ok (.if_icmp .ge 45, 3) := by decide +kernel
theorem dX2_addSpending_34 : decode cX2_addSpending 34 = .ok (.iload_n 3, 1) := by decide +kernel
theorem dX2_addSpending_35 : decode cX2_addSpending 35 = .ok (.ifCond .lt 41, 3) := by decide +kernel
theorem dX2_addSpending_38 : decode cX2_addSpending 38 = .ok (.aload_n 0, 1) := by decide +kernel
theorem dX2_addSpending_39 : decode cX2_addSpending 39 = .ok (.getfield 16, 3) := by decide +kernel
theorem dX2_addSpending_42 : decode cX2_addSpending 42 = .ok (.iload_n 3, 1) := by decide +kernel
theorem dX2_addSpending_43 : decode cX2_addSpending 43 = .ok (.bipush 6, 2) := by decide +kernel
theorem dX2_addSpending_45 : decode cX2_addSpending 45 = .ok (.aload_n 0, 1) := by decide +kernel
theorem dX2_addSpending_46 : decode cX2_addSpending 46 = .ok (.getfield 16, 3) := by decide +kernel
theorem dX2_addSpending_49 : decode cX2_addSpending 49 = .ok (.iload_n 3, 1) := by decide +kernel
theorem dX2_addSpending_50 : decode cX2_addSpending 50 = .ok (.bipush 6, 2) := by decide +kernel
theorem dX2_addSpending_52 : decode cX2_addSpending 52 = .ok (.invokevirtual 24, 3) := by decide +kernel
theorem dX2_addSpending_55 : decode cX2_addSpending 55 = .ok (.iload_n 2, 1) := by decide +kernel
theorem dX2_addSpending_56 : decode cX2_addSpending 56 = .ok (.iadd, 1) := by decide +kernel
theorem dX2_addSpending_57 : decode cX2_addSpending 57 = .ok (.invokevirtual 28, 3) := by decide +kernel
theorem dX2_addSpending_60 : decode cX2_addSpending 60 = .ok (.aload_n 0, 1) := by decide +kernel
theorem dX2_addSpending_61 : decode cX2_addSpending 61 = .ok (.getfield 16, 3) := by decide +kernel
theorem dX2_addSpending_64 : decode cX2_addSpending 64 = .ok (.iload_n 3, 1) := by decide +kernel
theorem dX2_addSpending_65 : decode cX2_addSpending 65 = .ok (.iconst 0, 1) := by decide +kernel
theorem dX2_addSpending_66 : decode cX2_addSpending 66 = .ok (.invokevirtual 24, 3) := by decide +kernel
theorem dX2_addSpending_69 : decode cX2_addSpending 69 = .ok (.istore_n 3, 1) := by decide +kernel
theorem dX2_addSpending_70 : decode cX2_addSpending 70 = .ok (.iinc 4 1, 3) := by decide +kernel
theorem dX2_addSpending_73 : decode cX2_addSpending 73 = .ok (.goto (-46), 3) := by decide +kernel
theorem dX2_addSpending_76 : decode cX2_addSpending 76 = .ok (.return_, 1) := by decide +kernel
set_option maxRecDepth 20000 in
theorem ggX2_clearSums_X2_total : GoodIn wsX2_clearSums wsX2_total := goodIn_r _ [6, 1, 15, 16, 17, 18, 19] (by decide +kernel) (by decide +kernel)
set_option maxRecDepth 20000 in
theorem gX2_clearSums_X2_total : GoodIn wsX2_clearSums (wsV RX2 36 RX2 yX2_total wsX2_total) := goodIn_app (goodIn_of _ (by decide +kernel)) ggX2_clearSums_X2_total
set_option maxRecDepth 20000 in
theorem ggX2_clearSums_X3_put : GoodIn wsX2_clearSums wsX3_put := goodIn_r _ [11, 12, 13, 14, 16, 17, 18, 19] (by decide +kernel) (by decide +kernel)
set_option maxRecDepth 20000 in
theorem gX2_clearSums_X3_put : GoodIn wsX2_clearSums (wsV RX2 28 RX3 yX3_put wsX3_put) := goodIn_app (goodIn_of _ (by decide +kernel)) ggX2_clearSums_X3_put
theorem dX2_clearSums_0 : decode cX2_clearSums 0 = .ok (.iconst 0, 1) := by decide +kernel
theorem dX2_clearSums_1 : decode cX2_clearSums 1 = .ok (.istore_n 1, 1) := by decide +kernel
theorem dX2_clearSums_2 : decode cX2_clearSums 2 = .ok (.iload_n 1, 1) := by decide +kernel
theorem dX2_clearSums_3 : decode cX2_clearSums 3 = .ok (.aload_n 0, 1) := by decide +kernel
theorem dX2_clearSums_4 : decode cX2_clearSums 4 = .ok (.invokevirtual 36, 3) := by decide +kernel
theorem dX2_clearSums_7 : decode cX2_clearSums 7 = .ok (.if_icmp .ge 20, 3) := by decide +kernel
theorem dX2_clearSums_10 : decode cX2_clearSums 10 = .ok (.aload_n 0, 1) := by decide +kernel
theorem dX2_clearSums_11 : decode cX2_clearSums 11 = .ok (.getfield 16, 3) := by decide +kernel
theorem dX2_clearSums_14 : decode cX2_clearSums 14 = .ok (.iload_n 1, 1) := by decide +kernel
theorem dX2_clearSums_15 : decode cX2_clearSums 15 = .ok (.bipush 6, 2) := by decide +kernel
theorem dX2_clearSums_17 : decode cX2_clearSums 17 = .ok (.iconst 0, 1) := by decide +kernel
theorem dX2_clearSums_18 : decode cX2_clearSums 18 = .ok (.invokevirtual 28, 3) := by decide +kernel
theorem dX2_clearSums_21 : decode cX2_clearSums 21 = .ok (.iinc 1 1, 3) := by decide +kernel
theorem dX2_clearSums_24 : decode cX2_clearSums 24 = .ok (.goto (-22), 3) := by decide +kernel
theorem dX2_clearSums_27 : decode cX2_clearSums 27 = .ok (.return_, 1) := by decide +kernel
set_option maxRecDepth 20000 in
theorem ggX2_standingTotal_X2_total : GoodIn wsX2_standingTotal wsX2_total := goodIn_r _ [5, 6, 19, 20, 21, 22, 23] (by decide +kernel) (by decide +kernel)
set_option maxRecDepth 20000 in
theorem gX2_standingTotal_X2_total : GoodIn wsX2_standingTotal (wsV RX2 36 RX2 yX2_total wsX2_total) := goodIn_app (goodIn_of _ (by decide +kernel)) ggX2_standingTotal_X2_total
set_option maxRecDepth 20000 in
theorem ggX2_standingTotal_X2_stands : GoodIn wsX2_standingTotal wsX2_stands := goodIn_r _ [10, 6, 1, 2, 3, 4, 5, 11, 12, 13, 14, 15, 16, 17, 18, 19, 20, 21, 22, 23] (by decide +kernel) (by decide +kernel)
set_option maxRecDepth 20000 in
theorem gX2_standingTotal_X2_stands : GoodIn wsX2_standingTotal (wsV RX2 48 RX2 yX2_stands wsX2_stands) := goodIn_app (goodIn_of _ (by decide +kernel)) ggX2_standingTotal_X2_stands
theorem dX2_standingTotal_0 : decode cX2_standingTotal 0 = .ok (.iconst 0, 1) := by decide +kernel
theorem dX2_standingTotal_1 : decode cX2_standingTotal 1 = .ok (.istore_n 1, 1) := by decide +kernel
theorem dX2_standingTotal_2 : decode cX2_standingTotal 2 = .ok (.iconst 0, 1) := by decide +kernel
theorem dX2_standingTotal_3 : decode cX2_standingTotal 3 = .ok (.istore_n 2, 1) := by decide +kernel
theorem dX2_standingTotal_4 : decode cX2_standingTotal 4 = .ok (.iload_n 2, 1) := by decide +kernel
theorem dX2_standingTotal_5 : decode cX2_standingTotal 5 = .ok (.aload_n 0, 1) := by decide +kernel
theorem dX2_standingTotal_6 : decode cX2_standingTotal 6 = .ok (.invokevirtual 36, 3) := by decide +kernel
theorem dX2_standingTotal_9 : decode cX2_standingTotal 9 = .ok (.if_icmp .ge 25, 3) := by decide +kernel
theorem dX2_standingTotal_12 : decode cX2_standingTotal 12 = .ok (.iload_n 1, 1) := by decide +kernel
theorem dX2_standingTotal_13 : decode cX2_standingTotal 13 = .ok (.aload_n 0, 1) := by decide +kernel
theorem dX2_standingTotal_14 : decode cX2_standingTotal 14 = .ok (.iload_n 2, 1) := by decide +kernel
theorem dX2_standingTotal_15 : decode cX2_standingTotal 15 = .ok (.invokevirtual 48, 3) := by decide +kernel
theorem dX2_standingTotal_18 : decode cX2_standingTotal 18 = .ok (.ifCond .eq 7, 3) := by decide +kernel
theorem dX2_standingTotal_21 : decode cX2_standingTotal 21 = .ok (.iconst 1, 1) := by decide +kernel
theorem dX2_standingTotal_22 : decode cX2_standingTotal 22 = .ok (.goto 4, 3) := by decide +kernel
theorem dX2_standingTotal_25 : decode cX2_standingTotal 25 = .ok (.iconst 0, 1) := by decide +kernel
theorem dX2_standingTotal_26 : decode cX2_standingTotal 26 = .ok (.iadd, 1) := by decide +kernel
theorem dX2_standingTotal_27 : decode cX2_standingTotal 27 = .ok (.istore_n 1, 1) := by decide +kernel
theorem dX2_standingTotal_28 : decode cX2_standingTotal 28 = .ok (.iinc 2 1, 3) := by decide +kernel
theorem dX2_standingTotal_31 : decode cX2_standingTotal 31 = .ok (.goto (-27), 3) := by decide +kernel
theorem dX2_standingTotal_34 : decode cX2_standingTotal 34 = .ok (.iload_n 1, 1) := by decide +kernel
theorem dX2_standingTotal_35 : decode cX2_standingTotal 35 = .ok (.ireturn, 1) := by decide +kernel
set_option maxRecDepth 20000 in
theorem ggX2_standingHeldBy_X2_total : GoodIn wsX2_standingHeldBy wsX2_total := goodIn_r _ [6, 1, 19, 20, 21, 22, 23] (by decide +kernel) (by decide +kernel)
set_option maxRecDepth 20000 in
theorem gX2_standingHeldBy_X2_total : GoodIn wsX2_standingHeldBy (wsV RX2 36 RX2 yX2_total wsX2_total) := goodIn_app (goodIn_of _ (by decide +kernel)) ggX2_standingHeldBy_X2_total
set_option maxRecDepth 20000 in
theorem ggX2_standingHeldBy_X2_stands : GoodIn wsX2_standingHeldBy wsX2_stands := goodIn_r _ [10, 1, 2, 3, 4, 5, 6, 11, 12, 13, 14, 15, 16, 17, 18, 19, 20, 21, 22, 23] (by decide +kernel) (by decide +kernel)
set_option maxRecDepth 20000 in
theorem gX2_standingHeldBy_X2_stands : GoodIn wsX2_standingHeldBy (wsV RX2 48 RX2 yX2_stands wsX2_stands) := goodIn_app (goodIn_of _ (by decide +kernel)) ggX2_standingHeldBy_X2_stands
set_option maxRecDepth 20000 in
theorem ggX2_standingHeldBy_X3_get : GoodIn wsX2_standingHeldBy wsX3_get := goodIn_r _ [15, 16, 17, 18, 20, 21, 22, 23] (by decide +kernel) (by decide +kernel)
set_option maxRecDepth 20000 in
theorem gX2_standingHeldBy_X3_get : GoodIn wsX2_standingHeldBy (wsV RX2 24 RX3 yX3_get wsX3_get) := goodIn_app (goodIn_of _ (by decide +kernel)) ggX2_standingHeldBy_X3_get
theorem dX2_standingHeldBy_0 : decode cX2_standingHeldBy 0 = .ok (.iconst 0, 1) := by decide +kernel
theorem dX2_standingHeldBy_1 : decode cX2_standingHeldBy 1 = .ok (.istore_n 2, 1) := by decide +kernel
theorem dX2_standingHeldBy_2 : decode cX2_standingHeldBy 2 = .ok (.iconst 0, 1) := by decide +kernel
theorem dX2_standingHeldBy_3 : decode cX2_standingHeldBy 3 = .ok (.istore_n 3, 1) := by decide +kernel
theorem dX2_standingHeldBy_4 : decode cX2_standingHeldBy 4 = .ok (.iload_n 3, 1) := by decide +kernel
theorem dX2_standingHeldBy_5 : decode cX2_standingHeldBy 5 = .ok (.aload_n 0, 1) := by decide +kernel
theorem dX2_standingHeldBy_6 : decode cX2_standingHeldBy 6 = .ok (.invokevirtual 36, 3) := by decide +kernel
theorem dX2_standingHeldBy_9 : decode cX2_standingHeldBy 9 = .ok (.if_icmp .ge 38, 3) := by decide +kernel
theorem dX2_standingHeldBy_12 : decode cX2_standingHeldBy 12 = .ok (.iload_n 2, 1) := by decide +kernel
theorem dX2_standingHeldBy_13 : decode cX2_standingHeldBy 13 = .ok (.aload_n 0, 1) := by decide +kernel
theorem dX2_standingHeldBy_14 : decode cX2_standingHeldBy 14 = .ok (.iload_n 3, 1) := by decide +kernel
theorem dX2_standingHeldBy_15 : decode cX2_standingHeldBy 15 = .ok (.invokevirtual 48, 3) := by decide +kernel
theorem dX2_standingHeldBy_18 : decode cX2_standingHeldBy 18 = .ok (.ifCond .eq 20, 3) := by decide +kernel
theorem dX2_standingHeldBy_21 : decode cX2_standingHeldBy 21 = .ok (.aload_n 0, 1) := by decide +kernel
theorem dX2_standingHeldBy_22 : decode cX2_standingHeldBy 22 = .ok (.getfield 16, 3) := by decide +kernel
theorem dX2_standingHeldBy_25 : decode cX2_standingHeldBy 25 = .ok (.iload_n 3, 1) := by decide +kernel
theorem dX2_standingHeldBy_26 : decode cX2_standingHeldBy 26 = .ok (.iconst 1, 1) := by decide +kernel
theorem dX2_standingHeldBy_27 : decode cX2_standingHeldBy 27 = .ok (.invokevirtual 24, 3) := by decide +kernel
theorem dX2_standingHeldBy_30 : decode cX2_standingHeldBy 30 = .ok (.iload_n 1, 1) := by decide +kernel
theorem dX2_standingHeldBy_31 : decode cX2_standingHeldBy 31 = .ok (.if_icmp .ne 7, 3) := by decide +kernel
theorem dX2_standingHeldBy_34 : decode cX2_standingHeldBy 34 = .ok (.iconst 1, 1) := by decide +kernel
theorem dX2_standingHeldBy_35 : decode cX2_standingHeldBy 35 = .ok (.goto 4, 3) := by decide +kernel
theorem dX2_standingHeldBy_38 : decode cX2_standingHeldBy 38 = .ok (.iconst 0, 1) := by decide +kernel
theorem dX2_standingHeldBy_39 : decode cX2_standingHeldBy 39 = .ok (.iadd, 1) := by decide +kernel
theorem dX2_standingHeldBy_40 : decode cX2_standingHeldBy 40 = .ok (.istore_n 2, 1) := by decide +kernel
theorem dX2_standingHeldBy_41 : decode cX2_standingHeldBy 41 = .ok (.iinc 3 1, 3) := by decide +kernel
theorem dX2_standingHeldBy_44 : decode cX2_standingHeldBy 44 = .ok (.goto (-40), 3) := by decide +kernel
theorem dX2_standingHeldBy_47 : decode cX2_standingHeldBy 47 = .ok (.iload_n 2, 1) := by decide +kernel
theorem dX2_standingHeldBy_48 : decode cX2_standingHeldBy 48 = .ok (.ireturn, 1) := by decide +kernel
set_option maxRecDepth 20000 in
theorem ggX2_spentByHolder_X2_total : GoodIn wsX2_spentByHolder wsX2_total := goodIn_r _ [6, 1, 15, 16, 17, 18, 19] (by decide +kernel) (by decide +kernel)
set_option maxRecDepth 20000 in
theorem gX2_spentByHolder_X2_total : GoodIn wsX2_spentByHolder (wsV RX2 36 RX2 yX2_total wsX2_total) := goodIn_app (goodIn_of _ (by decide +kernel)) ggX2_spentByHolder_X2_total
set_option maxRecDepth 20000 in
theorem ggX2_spentByHolder_X3_get : GoodIn wsX2_spentByHolder wsX3_get := goodIn_r _ [11, 12, 13, 14, 16, 17, 18, 19] (by decide +kernel) (by decide +kernel)
set_option maxRecDepth 20000 in
theorem gX2_spentByHolder_X3_get : GoodIn wsX2_spentByHolder (wsV RX2 24 RX3 yX3_get wsX3_get) := goodIn_app (goodIn_of _ (by decide +kernel)) ggX2_spentByHolder_X3_get
theorem dX2_spentByHolder_0 : decode cX2_spentByHolder 0 = .ok (.iconst 0, 1) := by decide +kernel
theorem dX2_spentByHolder_1 : decode cX2_spentByHolder 1 = .ok (.istore_n 2, 1) := by decide +kernel
theorem dX2_spentByHolder_2 : decode cX2_spentByHolder 2 = .ok (.iconst 0, 1) := by decide +kernel
theorem dX2_spentByHolder_3 : decode cX2_spentByHolder 3 = .ok (.istore_n 3, 1) := by decide +kernel
theorem dX2_spentByHolder_4 : decode cX2_spentByHolder 4 = .ok (.iload_n 3, 1) := by decide +kernel
theorem dX2_spentByHolder_5 : decode cX2_spentByHolder 5 = .ok (.aload_n 0, 1) := by decide +kernel
theorem dX2_spentByHolder_6 : decode cX2_spentByHolder 6 = .ok (.invokevirtual 36, 3) := by decide +kernel
theorem dX2_spentByHolder_9 : decode cX2_spentByHolder 9 = .ok (.if_icmp .ge 39, 3) := by decide +kernel
theorem dX2_spentByHolder_12 : decode cX2_spentByHolder 12 = .ok (.iload_n 2, 1) := by decide +kernel
theorem dX2_spentByHolder_13 : decode cX2_spentByHolder 13 = .ok (.aload_n 0, 1) := by decide +kernel
theorem dX2_spentByHolder_14 : decode cX2_spentByHolder 14 = .ok (.getfield 16, 3) := by decide +kernel
theorem dX2_spentByHolder_17 : decode cX2_spentByHolder 17 = .ok (.iload_n 3, 1) := by decide +kernel
theorem dX2_spentByHolder_18 : decode cX2_spentByHolder 18 = .ok (.iconst 1, 1) := by decide +kernel
theorem dX2_spentByHolder_19 : decode cX2_spentByHolder 19 = .ok (.invokevirtual 24, 3) := by decide +kernel
theorem dX2_spentByHolder_22 : decode cX2_spentByHolder 22 = .ok (.iload_n 1, 1) := by decide +kernel
theorem dX2_spentByHolder_23 : decode cX2_spentByHolder 23 = .ok (.if_icmp .ne 16, 3) := by decide +kernel
theorem dX2_spentByHolder_26 : decode cX2_spentByHolder 26 = .ok (.aload_n 0, 1) := by decide +kernel
theorem dX2_spentByHolder_27 : decode cX2_spentByHolder 27 = .ok (.getfield 16, 3) := by decide +kernel
theorem dX2_spentByHolder_30 : decode cX2_spentByHolder 30 = .ok (.iload_n 3, 1) := by decide +kernel
theorem dX2_spentByHolder_31 : decode cX2_spentByHolder 31 = .ok (.bipush 7, 2) := by decide +kernel
theorem dX2_spentByHolder_33 : decode cX2_spentByHolder 33 = .ok (.invokevirtual 24, 3) := by decide +kernel
theorem dX2_spentByHolder_36 : decode cX2_spentByHolder 36 = .ok (.goto 4, 3) := by decide +kernel
theorem dX2_spentByHolder_39 : decode cX2_spentByHolder 39 = .ok (.iconst 0, 1) := by decide +kernel
theorem dX2_spentByHolder_40 : decode cX2_spentByHolder 40 = .ok (.iadd, 1) := by decide +kernel
theorem dX2_spentByHolder_41 : decode cX2_spentByHolder 41 = .ok (.istore_n 2, 1) := by decide +kernel
theorem dX2_spentByHolder_42 : decode cX2_spentByHolder 42 = .ok (.iinc 3 1, 3) := by decide +kernel
theorem dX2_spentByHolder_45 : decode cX2_spentByHolder 45 = .ok (.goto (-41), 3) := by decide +kernel
theorem dX2_spentByHolder_48 : decode cX2_spentByHolder 48 = .ok (.iload_n 2, 1) := by decide +kernel
theorem dX2_spentByHolder_49 : decode cX2_spentByHolder 49 = .ok (.ireturn, 1) := by decide +kernel
theorem dX2_isIn_0 : decode cX2_isIn 0 = .ok (.iload_n 1, 1) := by decide +kernel
theorem dX2_isIn_1 : decode cX2_isIn 1 = .ok (.ifCond .lt 22, 3) := by decide +kernel
theorem dX2_isIn_4 : decode cX2_isIn 4 = .ok (.iload_n 1, 1) := by decide +kernel
theorem dX2_isIn_5 : decode cX2_isIn 5 = .ok (.bipush 12, 2) := by decide +kernel
theorem dX2_isIn_7 : decode cX2_isIn 7 = .ok (.if_icmp .ge 16, 3) := by decide +kernel
theorem dX2_isIn_10 : decode cX2_isIn 10 = .ok (.iload_n 0, 1) := by decide +kernel
theorem dX2_isIn_11 : decode cX2_isIn 11 = .ok (.iload_n 1, 1) := by decide +kernel
theorem dX2_isIn_12 : decode cX2_isIn 12 = .ok (.ishr, 1) := by decide +kernel
theorem dX2_isIn_13 : decode cX2_isIn 13 = .ok (.iconst 1, 1) := by decide +kernel
theorem dX2_isIn_14 : decode cX2_isIn 14 = .ok (.iand, 1) := by decide +kernel
theorem dX2_isIn_15 : decode cX2_isIn 15 = .ok (.iconst 1, 1) := by decide +kernel
theorem dX2_isIn_16 : decode cX2_isIn 16 = .ok (.if_icmp .ne 7, 3) := by decide +kernel
theorem dX2_isIn_19 : decode cX2_isIn 19 = .ok (.iconst 1, 1) := by decide +kernel
theorem dX2_isIn_20 : decode cX2_isIn 20 = .ok (.goto 4, 3) := by decide +kernel
theorem dX2_isIn_23 : decode cX2_isIn 23 = .ok (.iconst 0, 1) := by decide +kernel
