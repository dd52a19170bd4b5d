theorem dX2_isIn_24 : decode cX2_isIn 24 = .ok (.ireturn, 1) := by decide +kernel
theorem dX3_init_0 : decode cX3_init 0 = .ok (.aload_n 0, 1) := by decide +kernel
theorem dX3_init_1 : decode cX3_init 1 = .ok (.invokespecial 3, 3) := by decide +kernel
theorem dX3_init_4 : decode cX3_init 4 = .ok (.aload_n 0, 1) := by decide +kernel
theorem dX3_init_5 : decode cX3_init 5 = .ok (.iconst 0, 1) := by decide +kernel
theorem dX3_init_6 : decode cX3_init 6 = .ok (.iload_n 1, 1) := by decide +kernel
theorem dX3_init_7 : decode cX3_init 7 = .ok (.invokestatic 9, 3) := by decide +kernel
theorem dX3_init_10 : decode cX3_init 10 = .ok (.putfield 15, 3) := by decide +kernel
theorem dX3_init_13 : decode cX3_init 13 = .ok (.aload_n 0, 1) := by decide +kernel
theorem dX3_init_14 : decode cX3_init 14 = .ok (.iconst 0, 1) := by decide +kernel
theorem dX3_init_15 : decode cX3_init 15 = .ok (.iload_n 2, 1) := by decide +kernel
theorem dX3_init_16 : decode cX3_init 16 = .ok (.invokestatic 9, 3) := by decide +kernel
theorem dX3_init_19 : decode cX3_init 19 = .ok (.putfield 21, 3) := by decide +kernel
theorem dX3_init_22 : decode cX3_init 22 = .ok (.aload_n 0, 1) := by decide +kernel
theorem dX3_init_23 : decode cX3_init 23 = .ok (.iconst 0, 1) := by decide +kernel
theorem dX3_init_24 : decode cX3_init 24 = .ok (.aload_n 0, 1) := by decide +kernel
theorem dX3_init_25 : decode cX3_init 25 = .ok (.getfield 15, 3) := by decide +kernel
theorem dX3_init_28 : decode cX3_init 28 = .ok (.aload_n 0, 1) := by decide +kernel
theorem dX3_init_29 : decode cX3_init 29 = .ok (.getfield 21, 3) := by decide +kernel
theorem dX3_init_32 : decode cX3_init 32 = .ok (.imul, 1) := by decide +kernel
theorem dX3_init_33 : decode cX3_init 33 = .ok (.invokestatic 9, 3) := by decide +kernel
theorem dX3_init_36 : decode cX3_init 36 = .ok (.newarray .int, 2) := by decide +kernel
theorem dX3_init_38 : decode cX3_init 38 = .ok (.putfield 24, 3) := by decide +kernel
theorem dX3_init_41 : decode cX3_init 41 = .ok (.return_, 1) := by decide +kernel
theorem dX3_isFull_0 : decode cX3_isFull 0 = .ok (.aload_n 0, 1) := by decide +kernel
theorem dX3_isFull_1 : decode cX3_isFull 1 = .ok (.getfield 28, 3) := by decide +kernel
theorem dX3_isFull_4 : decode cX3_isFull 4 = .ok (.aload_n 0, 1) := by decide +kernel
theorem dX3_isFull_5 : decode cX3_isFull 5 = .ok (.getfield 15, 3) := by decide +kernel
theorem dX3_isFull_8 : decode cX3_isFull 8 = .ok (.if_icmp .lt 7, 3) := by decide +kernel
theorem dX3_isFull_11 : decode cX3_isFull 11 = .ok (.iconst 1, 1) := by decide +kernel
theorem dX3_isFull_12 : decode cX3_isFull 12 = .ok (.goto 4, 3) := by decide +kernel
theorem dX3_isFull_15 : decode cX3_isFull 15 = .ok (.iconst 0, 1) := by decide +kernel
theorem dX3_isFull_16 : decode cX3_isFull 16 = .ok (.ireturn, 1) := by decide +kernel
theorem dX3_get_0 : decode cX3_get 0 = .ok (.iload_n 1, 1) := by decide +kernel
theorem dX3_get_1 : decode cX3_get 1 = .ok (.ifCond .lt 23, 3) := by decide +kernel
theorem dX3_get_4 : decode cX3_get 4 = .ok (.iload_n 1, 1) := by decide +kernel
theorem dX3_get_5 : decode cX3_get 5 = .ok (.aload_n 0, 1) := by decide +kernel
theorem dX3_get_6 : decode cX3_get 6 = .ok (.getfield 28, 3) := by decide +kernel
theorem dX3_get_9 : decode cX3_get 9 = .ok (.if_icmp .ge 15, 3) := by decide +kernel
theorem dX3_get_12 : decode cX3_get 12 = .ok (.iload_n 2, 1) := by decide +kernel
theorem dX3_get_13 : decode cX3_get 13 = .ok (.ifCond .lt 11, 3) := by decide +kernel
theorem dX3_get_16 : decode cX3_get 16 = .ok (.iload_n 2, 1) := by decide +kernel
theorem dX3_get_17 : decode cX3_get 17 = .ok (.aload_n 0, 1) := by decide +kernel
theorem dX3_get_18 : decode cX3_get 18 = .ok (.getfield 21, 3) := by decide +kernel
theorem dX3_get_21 : decode cX3_get 21 = .ok (.if_icmp .lt 5, 3) := by decide +kernel
theorem dX3_get_24 : decode cX3_get 24 = .ok (.iconst 0, 1) := by decide +kernel
theorem dX3_get_25 : decode cX3_get 25 = .ok (.ireturn, 1) := by decide +kernel
theorem dX3_get_26 : decode cX3_get 26 = .ok (.iload_n 1, 1) := by decide +kernel
theorem dX3_get_27 : decode cX3_get 27 = .ok (.aload_n 0, 1) := by decide +kernel
theorem dX3_get_28 : decode cX3_get 28 = .ok (.getfield 21, 3) := by decide +kernel
theorem dX3_get_31 : decode cX3_get 31 = .ok (.imul, 1) := by decide +kernel
theorem dX3_get_32 : decode cX3_get 32 = .ok (.iload_n 2, 1) := by decide +kernel
theorem dX3_get_33 : decode cX3_get 33 = .ok (.iadd, 1) := by decide +kernel
theorem dX3_get_34 : decode cX3_get 34 = .ok (.istore_n 3, 1) := by decide +kernel
theorem dX3_get_35 : decode cX3_get 35 = .ok (.iload_n 3, 1) := by decide +kernel
theorem dX3_get_36 : decode cX3_get 36 = .ok (.ifCond .lt 21, 3) := by decide +kernel
theorem dX3_get_39 : decode cX3_get 39 = .ok (.iload_n 3, 1) := by decide +kernel
theorem dX3_get_40 : decode cX3_get 40 = .ok (.aload_n 0, 1) := by decide +kernel
theorem dX3_get_41 : decode cX3_get 41 = .ok (.getfield 24, 3) := by decide +kernel
theorem dX3_get_44 : decode cX3_get 44 = .ok (.arraylength, 1) := by decide +kernel
theorem dX3_get_45 : decode cX3_get 45 = .ok (.if_icmp .ge 12, 3) := by decide +kernel
theorem dX3_get_48 : decode cX3_get 48 = .ok (.aload_n 0, 1) := by decide +kernel
theorem dX3_get_49 : decode cX3_get 49 = .ok (.getfield 24, 3) := by decide +kernel
theorem dX3_get_52 : decode cX3_get 52 = .ok (.iload_n 3, 1) := by decide +kernel
theorem dX3_get_53 : decode cX3_get 53 = .ok (.iaload, 1) := by decide +kernel
theorem dX3_get_54 : decode cX3_get 54 = .ok (.goto 4, 3) := by decide +kernel
theorem dX3_get_57 : decode cX3_get 57 = .ok (.iconst 0, 1) := by decide +kernel
theorem dX3_get_58 : decode cX3_get 58 = .ok (.ireturn, 1) := by decide +kernel
theorem dX3_put_0 : decode cX3_put 0 = .ok (.iload_n 1, 1) := by decide +kernel
theorem dX3_put_1 : decode cX3_put 1 = .ok (.ifCond .lt 23, 3) := by decide +kernel
theorem dX3_put_4 : decode cX3_put 4 = .ok (.iload_n 1, 1) := by decide +kernel
theorem dX3_put_5 : decode cX3_put 5 = .ok (.aload_n 0, 1) := by decide +kernel
theorem dX3_put_6 : decode cX3_put 6 = .ok (.getfield 28, 3) := by decide +kernel
theorem dX3_put_9 : decode cX3_put 9 = .ok (.if_icmp .ge 15, 3) := by decide +kernel
theorem dX3_put_12 : decode cX3_put 12 = .ok (.iload_n 2, 1) := by decide +kernel
theorem dX3_put_13 : decode cX3_put 13 = .ok (.ifCond .lt 11, 3) := by decide +kernel
theorem dX3_put_16 : decode cX3_put 16 = .ok (.iload_n 2, 1) := by decide +kernel
theorem dX3_put_17 : decode cX3_put 17 = .ok (.aload_n 0, 1) := by decide +kernel
theorem dX3_put_18 : decode cX3_put 18 = .ok (.getfield 21, 3) := by decide +kernel
theorem dX3_put_21 : decode cX3_put 21 = .ok (.if_icmp .lt 4, 3) := by decide +kernel
theorem dX3_put_24 : decode cX3_put 24 = .ok (.return_, 1) := by decide +kernel
theorem dX3_put_25 : decode cX3_put 25 = .ok (.iload_n 1, 1) := by decide +kernel
theorem dX3_put_26 : decode cX3_put 26 = .ok (.aload_n 0, 1) := by decide +kernel
theorem dX3_put_27 : decode cX3_put 27 = .ok (.getfield 21, 3) := by decide +kernel
theorem dX3_put_30 : decode cX3_put 30 = .ok (.imul, 1) := by decide +kernel
theorem dX3_put_31 : decode cX3_put 31 = .ok (.iload_n 2, 1) := by decide +kernel
theorem dX3_put_32 : decode cX3_put 32 = .ok (.iadd, 1) := by decide +kernel
theorem dX3_put_33 : decode cX3_put 33 = .ok (.istore 4, 2) := by decide +kernel
theorem dX3_put_35 : decode cX3_put 35 = .ok (.iload 4, 2) := by decide +kernel
theorem dX3_put_37 : decode cX3_put 37 = .ok (.ifCond .lt 21, 3) := by decide +kernel
theorem dX3_put_40 : decode cX3_put 40 = .ok (.iload 4, 2) := by decide +kernel
theorem dX3_put_42 : decode cX3_put 42 = .ok (.aload_n 0, 1) := by decide +kernel
theorem dX3_put_43 : decode cX3_put 43 = .ok (.getfield 24, 3) := by decide +kernel
theorem dX3_put_46 : decode cX3_put 46 = .ok (.arraylength, 1) := by decide +kernel
theorem dX3_put_47 : decode cX3_put 47 = .ok (.if_icmp .ge 11, 3) := by decide +kernel
theorem dX3_put_50 : decode cX3_put 50 = .ok (.aload_n 0, 1) := by decide +kernel
theorem dX3_put_51 : decode cX3_put 51 = .ok (.getfield 24, 3) := by decide +kernel
theorem dX3_put_54 : decode cX3_put 54 = .ok (.iload 4, 2) := by decide +kernel
theorem dX3_put_56 : decode cX3_put 56 = .ok (.iload_n 3, 1) := by decide +kernel
theorem dX3_put_57 : decode cX3_put 57 = .ok (.iastore, 1) := by decide +kernel
theorem dX3_put_58 : decode cX3_put 58 = .ok (.return_, 1) := by decide +kernel
set_option maxRecDepth 20000 in
theorem ggX3_addRow_X3_isFull : GoodIn wsX3_addRow wsX3_isFull := goodIn_r _ [7, 1, 8, 14, 15, 16, 17] (by decide +kernel) (by decide +kernel)
set_option maxRecDepth 20000 in
theorem gX3_addRow_X3_isFull : GoodIn wsX3_addRow (wsV RX3 31 RX3 yX3_isFull wsX3_isFull) := goodIn_app (goodIn_of _ (by decide +kernel)) ggX3_addRow_X3_isFull
set_option maxRecDepth 20000 in
theorem ggX3_addRow_X3_put : GoodIn wsX3_addRow wsX3_put := goodIn_r _ [12, 1, 2, 13, 14, 15, 16, 17] (by decide +kernel) (by decide +kernel)
set_option maxRecDepth 20000 in
theorem gX3_addRow_X3_put : GoodIn wsX3_addRow (wsV RX3 35 RX3 yX3_put wsX3_put) := goodIn_app (goodIn_of _ (by decide +kernel)) ggX3_addRow_X3_put
theorem dX3_addRow_0 : decode cX3_addRow 0 = .ok (.aload_n 0, 1) := by decide +kernel
theorem dX3_addRow_1 : decode cX3_addRow 1 = .ok (.invokevirtual 31, 3) := by decide +kernel
theorem dX3_addRow_4 : decode cX3_addRow 4 = .ok (.ifCond .eq 5, 3) := by decide +kernel
theorem dX3_addRow_7 : decode cX3_addRow 7 = .ok (.iconst (-1), 1) := by decide +kernel
theorem dX3_addRow_8 : decode cX3_addRow 8 = .ok (.ireturn, 1) := by decide +kernel
theorem dX3_addRow_9 : decode cX3_addRow 9 = .ok (.aload_n 0, 1) := by decide +kernel
theorem dX3_addRow_10 : decode cX3_addRow 10 = .ok (.getfield 28, 3) := by decide +kernel
theorem dX3_addRow_13 : decode cX3_addRow 13 = .ok (.istore_n 1, 1) := by decide +kernel
theorem dX3_addRow_14 : decode cX3_addRow 14 = .ok (.aload_n 0, 1) := by decide +kernel
theorem dX3_addRow_15 : decode cX3_addRow 15 = .ok (.dup, 1) := by decide +kernel
theorem dX3_addRow_16 : decode cX3_addRow 16 = .ok (.getfield 28, 3) := by decide +kernel
theorem dX3_addRow_19 : decode cX3_addRow 19 = .ok (.iconst 1, 1) := by decide +kernel
theorem dX3_addRow_20 : decode cX3_addRow 20 = .ok (.iadd, 1) := by decide +kernel
theorem dX3_addRow_21 : decode cX3_addRow 21 = .ok (.putfield 28, 3) := by decide +kernel
theorem dX3_addRow_24 : decode cX3_addRow 24 = .ok (.iconst 0, 1) := by decide +kernel
theorem dX3_addRow_25 : decode cX3_addRow 25 = .ok (.istore_n 2, 1) := by decide +kernel
theorem dX3_addRow_26 : decode cX3_addRow 26 = .ok (.iload_n 2, 1) := by decide +kernel
theorem dX3_addRow_27 : decode cX3_addRow 27 = .ok (.aload_n 0, 1) := by decide +kernel
theorem dX3_addRow_28 : decode cX3_addRow 28 = .ok (.getfield 21, 3) := by decide +kernel
theorem dX3_addRow_31 : decode cX3_addRow 31 = .ok (.if_icmp .ge 16, 3) := by decide +kernel
theorem dX3_addRow_34 : decode cX3_addRow 34 = .ok (.aload_n 0, 1) := by decide +kernel
theorem dX3_addRow_35 : decode cX3_addRow 35 = .ok (.iload_n 1, 1) := by decide +kernel
theorem dX3_addRow_36 : decode cX3_addRow 36 = .ok (.iload_n 2, 1) := by decide +kernel
theorem dX3_addRow_37 : decode cX3_addRow 37 = .ok (.iconst 0, 1) := by decide +kernel
theorem dX3_addRow_38 : decode cX3_addRow 38 = .ok (.invokevirtual 35, 3) := by decide +kernel
theorem dX3_addRow_41 : decode cX3_addRow 41 = .ok (.iinc 2 1, 3) := by decide +kernel
theorem dX3_addRow_44 : decode cX3_addRow 44 = .ok (.goto (-18), 3) := by decide +kernel
theorem dX3_addRow_47 : decode cX3_addRow 47 = .ok (.iload_n 1, 1) := by decide +kernel
theorem dX3_addRow_48 : decode cX3_addRow 48 = .ok (.ireturn, 1) := by decide +kernel
set_option maxRecDepth 20000 in
theorem ggX3_removeRow_X3_get : GoodIn wsX3_removeRow wsX3_get := goodIn_r _ [7, 1, 2, 8, 13, 14, 15, 16] (by decide +kernel) (by decide +kernel)
set_option maxRecDepth 20000 in
theorem gX3_removeRow_X3_get : GoodIn wsX3_removeRow (wsV RX3 39 RX3 yX3_get wsX3_get) := goodIn_app (goodIn_of _ (by decide +kernel)) ggX3_removeRow_X3_get
set_option maxRecDepth 20000 in
theorem ggX3_removeRow_X3_put : GoodIn wsX3_removeRow wsX3_put := goodIn_r _ [12, 1, 2, 8, 13, 14, 15, 16] (by decide +kernel) (by decide +kernel)
set_option maxRecDepth 20000 in
theorem gX3_removeRow_X3_put : GoodIn wsX3_removeRow (wsV RX3 35 RX3 yX3_put wsX3_put) := goodIn_app (goodIn_of _ (by decide +kernel)) ggX3_removeRow_X3_put
theorem dX3_removeRow_0 : decode cX3_removeRow 0 = .ok (.iload_n 1, 1) := by decide +kernel
theorem dX3_removeRow_1 : decode cX3_removeRow 1 = .ok (.ifCond .lt 11, 3) := by decide +kernel
theorem dX3_removeRow_4 : decode cX3_removeRow 4 = .ok (.iload_n 1, 1) := by decide +kernel
theorem dX3_removeRow_5 : decode cX3_removeRow 5 = .ok (.aload_n 0, 1) := by decide +kernel
theorem dX3_removeRow_6 : decode cX3_removeRow 6 = .ok (.getfield 28, 3) := by decide +kernel
theorem dX3_removeRow_9 : decode cX3_removeRow 9 = .ok (.if_icmp .lt 4, 3) := by decide +kernel
theorem dX3_removeRow_12 : decode cX3_removeRow 12 = .ok (.return_, 1) := by decide +kernel
theorem dX3_removeRow_13 : decode cX3_removeRow 13 = .ok (.iload_n 1, 1) := by decide +kernel
theorem dX3_removeRow_14 : decode cX3_removeRow 14 = .ok (.iconst 1, 1) := by decide +kernel
theorem dX3_removeRow_15 : decode cX3_removeRow 15 = .ok (.iadd, 1) := by decide +kernel
theorem dX3_removeRow_16 : decode cX3_removeRow 16 = .ok (.istore_n 2, 1) := by decide +kernel
theorem dX3_removeRow_17 : decode cX3_removeRow 17 = .ok (.iload_n 2, 1) := by decide +kernel
theorem dX3_removeRow_18 : decode cX3_removeRow 18 = .ok (.aload_n 0, 1) := by decide +kernel
theorem dX3_removeRow_19 : decode cX3_removeRow 19 = .ok (.getfield 28, 3) := by decide +kernel
theorem dX3_removeRow_22 : decode cX3_removeRow 22 = .ok (.if_icmp .ge 39, 3) := by decide +kernel
theorem dX3_removeRow_25 : decode cX3_removeRow 25 = .ok (.iconst 0, 1) := by decide +kernel
theorem dX3_removeRow_26 : decode cX3_removeRow 26 = .ok (.istore_n 3, 1) := by decide +kernel
theorem dX3_removeRow_27 : decode cX3_removeRow 27 = .ok (.iload_n 3, 1) := by decide +kernel
theorem dX3_removeRow_28 : decode cX3_removeRow 28 = .ok (.aload_n 0, 1) := by decide +kernel
theorem dX3_removeRow_29 : decode cX3_removeRow 29 = .ok (.getfield 21, 3) := by decide +kernel
theorem dX3_removeRow_32 : decode cX3_removeRow 32 = .ok (.if_icmp .ge 23, 3) := by decide +kernel
theorem dX3_removeRow_35 : decode cX3_removeRow 35 = .ok (.aload_n 0, 1) := by decide +kernel
theorem dX3_removeRow_36 : decode cX3_removeRow 36 = .ok (.iload_n 2, 1) := by decide +kernel
theorem dX3_removeRow_37 : decode cX3_removeRow 37 = .ok (.iconst 1, 1) := by decide +kernel
theorem dX3_removeRow_38 : decode cX3_removeRow 38 = .ok (.isub, 1) := by decide +kernel
theorem dX3_removeRow_39 : decode cX3_removeRow 39 = .ok (.iload_n 3, 1) := by decide +kernel
theorem dX3_removeRow_40 : decode cX3_removeRow 40 = .ok (.aload_n 0, 1) := by decide +kernel
theorem dX3_removeRow_41 : decode cX3_removeRow 41 = .ok (.iload_n 2, 1) := by decide +kernel
theorem dX3_removeRow_42 : decode cX3_removeRow 42 = .ok (.iload_n 3, 1) := by decide +kernel
theorem dX3_removeRow_43 : decode cX3_removeRow 43 = .ok (.invokevirtual 39, 3) := by decide +kernel
theorem dX3_removeRow_46 : decode cX3_removeRow 46 = .ok (.invokevirtual 35, 3) := by decide +kernel
theorem dX3_removeRow_49 : decode cX3_removeRow 49 = .ok (.iinc 3 1, 3) := by decide +kernel
theorem dX3_removeRow_52 : decode cX3_removeRow 52 = .ok (.goto (-25), 3) := by decide +kernel
theorem dX3_removeRow_55 : decode cX3_removeRow 55 = .ok (.iinc 2 1, 3) := by decide +kernel
theorem dX3_removeRow_58 : decode cX3_removeRow 58 = .ok (.goto (-41), 3) := by decide +kernel
theorem dX3_removeRow_61 : decode cX3_removeRow 61 = .ok (.aload_n 0, 1) := by decide +kernel
theorem dX3_removeRow_62 : decode cX3_removeRow 62 = .ok (.dup, 1) := by decide +kernel
theorem dX3_removeRow_63 : decode cX3_removeRow 63 = .ok (.getfield 28, 3) := by decide +kernel
theorem dX3_removeRow_66 : decode cX3_removeRow 66 = .ok (.iconst 1, 1) := by decide +kernel
theorem dX3_removeRow_67 : decode cX3_removeRow 67 = .ok (.isub, 1) := by decide +kernel
theorem dX3_removeRow_68 : decode cX3_removeRow 68 = .ok (.putfield 28, 3) := by decide +kernel
theorem dX3_removeRow_71 : decode cX3_removeRow 71 = .ok (.return_, 1) := by decide +kernel
theorem dX3_copyFrom_0 : decode cX3_copyFrom 0 = .ok (.aload_n 1, 1) := by decide +kernel
theorem dX3_copyFrom_1 : decode cX3_copyFrom 1 = .ok (.ifnonnull 4, 3) := by decide +kernel
theorem dX3_copyFrom_4 : decode cX3_copyFrom 4 = .ok (.return_, 1) := by decide +kernel
theorem dX3_copyFrom_5 : decode cX3_copyFrom 5 = .ok (.aload_n 0, 1) := by decide +kernel
theorem dX3_copyFrom_6 : decode cX3_copyFrom 6 = .ok (.aload_n 1, 1) := by decide +kernel
theorem dX3_copyFrom_7 : decode cX3_copyFrom 7 = .ok (.getfield 28, 3) := by decide +kernel
theorem dX3_copyFrom_10 : decode cX3_copyFrom 10 = .ok (.putfield 28, 3) := by decide +kernel
theorem dX3_copyFrom_13 : decode cX3_copyFrom 13 = .ok (.iconst 0, 1) := by decide +kernel
theorem dX3_copyFrom_14 : decode cX3_copyFrom 14 = .ok (.istore_n 2, 1) := by decide +kernel
theorem dX3_copyFrom_15 : decode cX3_copyFrom 15 = .ok (.iload_n 2, 1) := by decide +kernel
theorem dX3_copyFrom_16 : decode cX3_copyFrom 16 = .ok (.aload_n 0, 1) := by decide +kernel
theorem dX3_copyFrom_17 : decode cX3_copyFrom 17 = .ok (.getfield 24, 3) := by decide +kernel
theorem dX3_copyFrom_20 : decode cX3_copyFrom 20 = .ok (.arraylength, 1) := by decide +kernel
theorem dX3_copyFrom_21 : decode cX3_copyFrom 21 = .ok (.if_icmp .ge 30, 3) := by decide +kernel
theorem dX3_copyFrom_24 : decode cX3_copyFrom 24 = .ok (.iload_n 2, 1) := by decide +kernel
theorem dX3_copyFrom_25 : decode cX3_copyFrom 25 = .ok (.aload_n 1, 1) := by decide +kernel
theorem dX3_copyFrom_26 : decode cX3_copyFrom 26 = .ok (.getfield 24, 3) := by decide +kernel
theorem dX3_copyFrom_29 : decode cX3_copyFrom 29 = .ok (.arraylength, 1) := by decide +kernel
theorem dX3_copyFrom_30 : decode cX3_copyFrom 30 = .ok (.if_icmp .ge 21, 3) := by decide +kernel
theorem dX3_copyFrom_33 : decode cX3_copyFrom 33 = .ok (.aload_n 0, 1) := by decide +kernel
theorem dX3_copyFrom_34 : decode cX3_copyFrom 34 = .ok (.getfield 24, 3) := by decide +kernel
theorem dX3_copyFrom_37 : decode cX3_copyFrom 37 = .ok (.iload_n 2, 1) := by decide +kernel
theorem dX3_copyFrom_38 : decode cX3_copyFrom 38 = .ok (.aload_n 1, 1) := by decide +kernel
theorem dX3_copyFrom_39 : decode cX3_copyFrom 39 = .ok (.getfield 24, 3) := by decide +kernel
theorem dX3_copyFrom_42 : decode cX3_copyFrom 42 = .ok (.iload_n 2, 1) := by decide +kernel
theorem dX3_copyFrom_43 : decode cX3_copyFrom 43 = .ok (.iaload, 1) := by decide +kernel
theorem dX3_copyFrom_44 : decode cX3_copyFrom 44 = .ok (.iastore, 1) := by decide +kernel
theorem dX3_copyFrom_45 : decode cX3_copyFrom 45 = .ok (.iinc 2 1, 3) := by decide +kernel
theorem dX3_copyFrom_48 : decode cX3_copyFrom 48 = .ok (.goto (-33), 3) := by decide +kernel
theorem dX3_copyFrom_51 : decode cX3_copyFrom 51 = .ok (.return_, 1) := by decide +kernel
theorem dX4_init_0 : decode cX4_init 0 = .ok (.aload_n 0, 1) := by decide +kernel
theorem dX4_init_1 : decode cX4_init 1 = .ok (.invokespecial 3, 3) := by decide +kernel
theorem dX4_init_4 : decode cX4_init 4 = .ok (.aload_n 0, 1) := by decide +kernel
theorem dX4_init_5 : decode cX4_init 5 = .ok (.bipush 60, 2) := by decide +kernel
theorem dX4_init_7 : decode cX4_init 7 = .ok (.newarray .int, 2) := by decide +kernel
theorem dX4_init_9 : decode cX4_init 9 = .ok (.putfield 9, 3) := by decide +kernel
theorem dX4_init_12 : decode cX4_init 12 = .ok (.return_, 1) := by decide +kernel
theorem dX4_isFull_0 : decode cX4_isFull 0 = .ok (.aload_n 0, 1) := by decide +kernel
theorem dX4_isFull_1 : decode cX4_isFull 1 = .ok (.getfield 15, 3) := by decide +kernel
theorem dX4_isFull_4 : decode cX4_isFull 4 = .ok (.aload_n 0, 1) := by decide +kernel
theorem dX4_isFull_5 : decode cX4_isFull 5 = .ok (.getfield 9, 3) := by decide +kernel
theorem dX4_isFull_8 : decode cX4_isFull 8 = .ok (.arraylength, 1) := by decide +kernel
theorem dX4_isFull_9 : decode cX4_isFull 9 = .ok (.if_icmp .lt 7, 3) := by decide +kernel
theorem dX4_isFull_12 : decode cX4_isFull 12 = .ok (.iconst 1, 1) := by decide +kernel
theorem dX4_isFull_13 : decode cX4_isFull 13 = .ok (.goto 4, 3) := by decide +kernel
theorem dX4_isFull_16 : decode cX4_isFull 16 = .ok (.iconst 0, 1) := by decide +kernel
theorem dX4_isFull_17 : decode cX4_isFull 17 = .ok (.ireturn, 1) := by decide +kernel
theorem dX4_add_0 : decode cX4_add 0 = .ok (.aload_n 0, 1) := by decide +kernel
theorem dX4_add_1 : decode cX4_add 1 = .ok (.getfield 15, 3) := by decide +kernel
theorem dX4_add_4 : decode cX4_add 4 = .ok (.ifCond .lt 35, 3) := by decide +kernel
theorem dX4_add_7 : decode cX4_add 7 = .ok (.aload_n 0, 1) := by decide +kernel
theorem dX4_add_8 : decode cX4_add 8 = .ok (.getfield 15, 3) := by decide +kernel
theorem dX4_add_11 : decode cX4_add 11 = .ok (.aload_n 0, 1) := by decide +kernel
theorem dX4_add_12 : decode cX4_add 12 = .ok (.getfield 9, 3) := by decide +kernel
theorem dX4_add_15 : decode cX4_add 15 = .ok (.arraylength, 1) := by decide +kernel
theorem dX4_add_16 : decode cX4_add 16 = .ok (.if_icmp .ge 23, 3) := by decide +kernel
theorem dX4_add_19 : decode cX4_add 19 = .ok (.aload_n 0, 1) := by decide +kernel
theorem dX4_add_20 : decode cX4_add 20 = .ok (.getfield 9, 3) := by decide +kernel
theorem dX4_add_23 : decode cX4_add 23 = .ok (.aload_n 0, 1) := by decide +kernel
theorem dX4_add_24 : decode cX4_add 24 = .ok (.getfield 15, 3) := by decide +kernel
theorem dX4_add_27 : decode cX4_add 27 = .ok (.iload_n 1, 1) := by decide +kernel
theorem dX4_add_28 : decode cX4_add 28 = .ok (.iastore, 1) := by decide +kernel
theorem dX4_add_29 : decode cX4_add 29 = .ok (.aload_n 0, 1) := by decide +kernel
theorem dX4_add_30 : decode cX4_add 30 = .ok (.dup, 1) := by decide +kernel
theorem dX4_add_31 : decode cX4_add 31 = .ok (.getfield 15, 3) := by decide +kernel
theorem dX4_add_34 : decode cX4_add 34 = .ok (.iconst 1, 1) := by decide +kernel
theorem dX4_add_35 : decode cX4_add 35 = .ok (.iadd, 1) := by decide +kernel
theorem dX4_add_36 : decode cX4_add 36 = .ok (.putfield 15, 3) := by decide +kernel
theorem dX4_add_39 : decode cX4_add 39 = .ok (.aload_n 0, 1) := by decide +kernel
theorem dX4_add_40 : decode cX4_add 40 = .ok (.getfield 15, 3) := by decide +kernel
theorem dX4_add_43 : decode cX4_add 43 = .ok (.ireturn, 1) := by decide +kernel
theorem dX4_empty_0 : decode cX4_empty 0 = .ok (.aload_n 0, 1) := by decide +kernel
theorem dX4_empty_1 : decode cX4_empty 1 = .ok (.getfield 15, 3) := by decide +kernel
theorem dX4_empty_4 : decode cX4_empty 4 = .ok (.istore_n 1, 1) := by decide +kernel
theorem dX4_empty_5 : decode cX4_empty 5 = .ok (.aload_n 0, 1) := by decide +kernel
theorem dX4_empty_6 : decode cX4_empty 6 = .ok (.iconst 0, 1) := by decide +kernel
theorem dX4_empty_7 : decode cX4_empty 7 = .ok (.putfield 15, 3) := by decide +kernel
theorem dX4_empty_10 : decode cX4_empty 10 = .ok (.iload_n 1, 1) := by decide +kernel
theorem dX4_empty_11 : decode cX4_empty 11 = .ok (.ireturn, 1) := by decide +kernel
theorem dX4_codeAt_0 : decode cX4_codeAt 0 = .ok (.iload_n 1, 1) := by decide +kernel
theorem dX4_codeAt_1 : decode cX4_codeAt 1 = .ok (.ifCond .lt 29, 3) := by decide +kernel
theorem dX4_codeAt_4 : decode cX4_codeAt 4 = .ok (.iload_n 1, 1) := by decide +kernel
theorem dX4_codeAt_5 : decode cX4_codeAt 5 = .ok (.aload_n 0, 1) := by decide +kernel
theorem dX4_codeAt_6 : decode cX4_codeAt 6 = .ok (.getfield 15, 3) := by decide +kernel
theorem dX4_codeAt_9 : decode cX4_codeAt 9 = .ok (.if_icmp .ge 21, 3) := by decide +kernel
theorem dX4_codeAt_12 : decode cX4_codeAt 12 = .ok (.iload_n 1, 1) := by decide +kernel
theorem dX4_codeAt_13 : decode cX4_codeAt 13 = .ok (.aload_n 0, 1) := by decide +kernel
theorem dX4_codeAt_14 : decode cX4_codeAt 14 = .ok (.getfield 9, 3) := by decide +kernel
theorem dX4_codeAt_17 : decode cX4_codeAt 17 = .ok (.arraylength, 1) := by decide +kernel
theorem dX4_codeAt_18 : decode cX4_codeAt 18 = .ok (.if_icmp .ge 12, 3) := by decide +kernel
theorem dX4_codeAt_21 : decode cX4_codeAt 21 = .ok (.aload_n 0, 1) := by decide +kernel
theorem dX4_codeAt_22 : decode cX4_codeAt 22 = .ok (.getfield 9, 3) := by decide +kernel
theorem dX4_codeAt_25 : decode cX4_codeAt 25 = .ok (.iload_n 1, 1) := by decide +kernel
theorem dX4_codeAt_26 : decode cX4_codeAt 26 = .ok (.iaload, 1) := by decide +kernel
theorem dX4_codeAt_27 : decode cX4_codeAt 27 = .ok (.goto 4, 3) := by decide +kernel
theorem dX4_codeAt_30 : decode cX4_codeAt 30 = .ok (.iconst 0, 1) := by decide +kernel
theorem dX4_codeAt_31 : decode cX4_codeAt 31 = .ok (.ireturn, 1) := by decide +kernel
set_option maxRecDepth 20000 in
theorem ggX4_errorIndex_X4_codeAt : GoodIn wsX4_errorIndex wsX4_codeAt := goodIn_r _ [6, 1, 7, 23, 24] (by decide +kernel) (by decide +kernel)
set_option maxRecDepth 20000 in
theorem gX4_errorIndex_X4_codeAt : GoodIn wsX4_errorIndex (wsV RX4 19 RX4 yX4_codeAt wsX4_codeAt) := goodIn_app (goodIn_of _ (by decide +kernel)) ggX4_errorIndex_X4_codeAt
set_option maxRecDepth 20000 in
theorem ggX4_errorIndex_X4_stateAfter : GoodIn wsX4_errorIndex wsX4_stateAfter := goodIn_r _ [10, 11, 12, 5, 13, 14, 15, 16, 17, 18, 19, 20, 21, 22] (by decide +kernel) (by decide +kernel)
set_option maxRecDepth 20000 in
theorem gX4_errorIndex_X4_stateAfter : GoodIn wsX4_errorIndex (va_wsS RX4 23 yX4_stateAfter wsX4_stateAfter) := goodIn_app (goodIn_of _ (by decide +kernel)) ggX4_errorIndex_X4_stateAfter
theorem dX4_errorIndex_0 : decode cX4_errorIndex 0 = .ok (.iconst 0, 1) := by decide +kernel
theorem dX4_errorIndex_1 : decode cX4_errorIndex 1 = .ok (.istore_n 1, 1) := by decide +kernel
theorem dX4_errorIndex_2 : decode cX4_errorIndex 2 = .ok (.iconst 0, 1) := by decide +kernel
theorem dX4_errorIndex_3 : decode cX4_errorIndex 3 = .ok (.istore_n 2, 1) := by decide +kernel
theorem dX4_errorIndex_4 : decode cX4_errorIndex 4 = .ok (.iload_n 2, 1) := by decide +kernel
theorem dX4_errorIndex_5 : decode cX4_errorIndex 5 = .ok (.aload_n 0, 1) := by decide +kernel
theorem dX4_errorIndex_6 : decode cX4_errorIndex 6 = .ok (.getfield 15, 3) := by decide +kernel
theorem dX4_errorIndex_9 : decode cX4_errorIndex 9 = .ok (.if_icmp .ge 26, 3) := by decide +kernel
theorem dX4_errorIndex_12 : decode cX4_errorIndex 12 = .ok (.iload_n 1, 1) := by decide +kernel
theorem dX4_errorIndex_13 : decode cX4_errorIndex 13 = .ok (.aload_n 0, 1) := by decide +kernel
theorem dX4_errorIndex_14 : decode cX4_errorIndex 14 = .ok (.iload_n 2, 1) := by decide +kernel
theorem dX4_errorIndex_15 : decode cX4_errorIndex 15 = .ok (.invokevirtual 19, 3) := by decide +kernel
theorem dX4_errorIndex_18 : decode cX4_errorIndex 18 = .ok (.invokestatic 23, 3) := by decide +kernel
theorem dX4_errorIndex_21 : decode cX4_errorIndex 21 = .ok (.istore_n 1, 1) := by decide +kernel
theorem dX4_errorIndex_22 : decode cX4_errorIndex 22 = .ok (.iload_n 1, 1) := by decide +kernel
theorem dX4_errorIndex_23 : decode cX4_errorIndex 23 = .ok (.iconst (-1), 1) := by decide +kernel
theorem dX4_errorIndex_24 : decode cX4_errorIndex 24 = .ok (.if_icmp .ne 5, 3) := by decide +kernel
theorem dX4_errorIndex_27 : decode cX4_errorIndex 27 = .ok (.iload_n 2, 1) := by decide +kernel
theorem dX4_errorIndex_28 : decode cX4_errorIndex 28 = .ok (.ireturn, 1) := by decide +kernel
theorem dX4_errorIndex_29 : decode cX4_errorIndex 29 = .ok (.iinc 2 1, 3) := by decide +kernel
theorem dX4_errorIndex_32 : decode cX4_errorIndex 32 = .ok (.goto (-28), 3) := by decide +kernel
theorem dX4_errorIndex_35 : decode cX4_errorIndex 35 = .ok (.aload_n 0, 1) := by decide +kernel
theorem dX4_errorIndex_36 : decode cX4_errorIndex 36 = .ok (.getfield 15, 3) := by decide +kernel
theorem dX4_errorIndex_39 : decode cX4_errorIndex 39 = .ok (.ireturn, 1) := by decide +kernel
set_option maxRecDepth 20000 in
theorem ggX4_isComplete_X4_codeAt : GoodIn wsX4_isComplete wsX4_codeAt := goodIn_r _ [6, 1, 7, 23, 24] (by decide +kernel) (by decide +kernel)
set_option maxRecDepth 20000 in
theorem gX4_isComplete_X4_codeAt : GoodIn wsX4_isComplete (wsV RX4 19 RX4 yX4_codeAt wsX4_codeAt) := goodIn_app (goodIn_of _ (by decide +kernel)) ggX4_isComplete_X4_codeAt
set_option maxRecDepth 20000 in
theorem ggX4_isComplete_X4_stateAfter : GoodIn wsX4_isComplete wsX4_stateAfter := goodIn_r _ [10, 11, 12, 5, 13, 14, 15, 16, 17, 18, 19, 20, 21, 22] (by decide +kernel) (by decide +kernel)
set_option maxRecDepth 20000 in
theorem gX4_isComplete_X4_stateAfter : GoodIn wsX4_isComplete (va_wsS RX4 23 yX4_stateAfter wsX4_stateAfter) := goodIn_app (goodIn_of _ (by decide +kernel)) ggX4_isComplete_X4_stateAfter
theorem dX4_isComplete_0 : decode cX4_isComplete 0 = .ok (.iconst 0, 1) := by decide +kernel
theorem dX4_isComplete_1 : decode cX4_isComplete 1 = .ok (.istore_n 1, 1) := by decide +kernel
theorem dX4_isComplete_2 : decode cX4_isComplete 2 = .ok (.iconst 0, 1) := by decide +kernel
theorem dX4_isComplete_3 : decode cX4_isComplete 3 = .ok (.istore_n 2, 1) := by decide +kernel
theorem dX4_isComplete_4 : decode cX4_isComplete 4 = .ok (.iload_n 2, 1) := by decide +kernel
theorem dX4_isComplete_5 : decode cX4_isComplete 5 = .ok (.aload_n 0, 1) := by decide +kernel
theorem dX4_isComplete_6 : decode cX4_isComplete 6 = .ok (.getfield 15, 3) := by decide +kernel
theorem dX4_isComplete_9 : decode cX4_isComplete 9 = .ok (.if_icmp .ge 19, 3) := by decide +kernel
theorem dX4_isComplete_12 : decode cX4_isComplete 12 = .ok (.iload_n 1, 1) := by decide +kernel
theorem dX4_isComplete_13 : decode cX4_isComplete 13 = .ok (.aload_n 0, 1) := by decide +kernel
theorem dX4_isComplete_14 : decode cX4_isComplete 14 = .ok (.iload_n 2, 1) := by decide +kernel
theorem dX4_isComplete_15 : decode cX4_isComplete 15 = .ok (.invokevirtual 19, 3) := by decide +kernel
theorem dX4_isComplete_18 : decode cX4_isComplete 18 = .ok (.invokestatic 23, 3) := by decide +kernel
theorem dX4_isComplete_21 : decode cX4_isComplete 21 = .ok (.istore_n 1, 1) := by decide +kernel
theorem dX4_isComplete_22 : decode cX4_isComplete 22 = .ok (.iinc 2 1, 3) := by decide +kernel
theorem dX4_isComplete_25 : decode cX4_isComplete 25 = .ok (.goto (-21), 3) := by decide +kernel
theorem dX4_isComplete_28 : decode cX4_isComplete 28 = .ok (.iload_n 1, 1) := by decide +kernel
theorem dX4_isComplete_29 : decode cX4_isComplete 29 = .ok (.iconst 5, 1) := by decide +kernel
theorem dX4_isComplete_30 : decode cX4_isComplete 30 = .ok (.if_icmp .lt 7, 3) := by decide +kernel
theorem dX4_isComplete_33 : decode cX4_isComplete 33 = .ok (.iconst 1, 1) := by decide +kernel
theorem dX4_isComplete_34 : decode cX4_isComplete 34 = .ok (.goto 4, 3) := by decide +kernel
theorem dX4_isComplete_37 : decode cX4_isComplete 37 = .ok (.iconst 0, 1) := by decide +kernel
theorem dX4_isComplete_38 : decode cX4_isComplete 38 = .ok (.ireturn, 1) := by decide +kernel
set_option maxRecDepth 20000 in
theorem ggX4_endOfNumber_X4_codeAt : GoodIn wsX4_endOfNumber wsX4_codeAt := goodIn_r _ [6, 1, 7, 11, 12] (by decide +kernel) (by decide +kernel)
set_option maxRecDepth 20000 in
theorem gX4_endOfNumber_X4_codeAt : GoodIn wsX4_endOfNumber (wsV RX4 19 RX4 yX4_codeAt wsX4_codeAt) := goodIn_app (goodIn_of _ (by decide +kernel)) ggX4_endOfNumber_X4_codeAt
set_option maxRecDepth 20000 in
theorem ggX4_endOfNumber_X4_isDigit : GoodIn wsX4_endOfNumber wsX4_isDigit := goodIn_r _ [10] (by decide +kernel) (by decide +kernel)
set_option maxRecDepth 20000 in
theorem gX4_endOfNumber_X4_isDigit : GoodIn wsX4_endOfNumber (va_wsS RX4 27 yX4_isDigit wsX4_isDigit) := goodIn_app (goodIn_of _ (by decide +kernel)) ggX4_endOfNumber_X4_isDigit
theorem dX4_endOfNumber_0 : decode cX4_endOfNumber 0 = .ok (.iload_n 1, 1) := by decide +kernel
theorem dX4_endOfNumber_1 : decode cX4_endOfNumber 1 = .ok (.istore_n 2, 1) := by decide +kernel
theorem dX4_endOfNumber_2 : decode cX4_endOfNumber 2 = .ok (.iload_n 2, 1) := by decide +kernel
theorem dX4_endOfNumber_3 : decode cX4_endOfNumber 3 = .ok (.aload_n 0, 1) := by decide +kernel
theorem dX4_endOfNumber_4 : decode cX4_endOfNumber 4 = .ok (.getfield 15, 3) := by decide +kernel
theorem dX4_endOfNumber_7 : decode cX4_endOfNumber 7 = .ok (.if_icmp .ge 20, 3) := by decide +kernel
theorem dX4_endOfNumber_10 : decode cX4_endOfNumber 10 = .ok (.aload_n 0, 1) := by decide +kernel
theorem dX4_endOfNumber_11 : decode cX4_endOfNumber 11 = .ok (.iload_n 2, 1) := by decide +kernel
theorem dX4_endOfNumber_12 : decode cX4_endOfNumber 12 = .ok (.invokevirtual 19, 3) := by decide +kernel
theorem dX4_endOfNumber_15 : decode cX4_endOfNumber 15 = .ok (.invokestatic 27, 3) := by decide +kernel
theorem dX4_endOfNumber_18 : decode cX4_endOfNumber 18 = .ok (.ifCond .eq 9, 3) := by decide +kernel
theorem dX4_endOfNumber_21 : decode cX4_endOfNumber 21 = .ok (.iinc 2 1, 3) := by decide +kernel
theorem dX4_endOfNumber_24 : decode cX4_endOfNumber 24 = .ok (.goto (-22), 3) := by decide +kernel
theorem dX4_endOfNumber_27 : decode cX4_endOfNumber 27 = .ok (.iload_n 2, 1) := by decide +kernel
theorem dX4_endOfNumber_28 : decode cX4_endOfNumber 28 = .ok (.ireturn, 1) := by decide +kernel
set_option maxRecDepth 20000 in
theorem ggX4_numberIn_X4_codeAt : GoodIn wsX4_numberIn wsX4_codeAt := goodIn_r _ [5, 6, 7, 8, 9] (by decide +kernel) (by decide +kernel)
set_option maxRecDepth 20000 in
theorem gX4_numberIn_X4_codeAt : GoodIn wsX4_numberIn (wsV RX4 19 RX4 yX4_codeAt wsX4_codeAt) := goodIn_app (goodIn_of _ (by decide +kernel)) ggX4_numberIn_X4_codeAt
theorem dX4_numberIn_0 : decode cX4_numberIn 0 = .ok (.iconst 0, 1) := by decide +kernel
theorem dX4_numberIn_1 : decode cX4_numberIn 1 = .ok (.istore_n 3, 1) := by decide +kernel
theorem dX4_numberIn_2 : decode cX4_numberIn 2 = .ok (.iload_n 1, 1) := by decide +kernel
theorem dX4_numberIn_3 : decode cX4_numberIn 3 = .ok (.istore 4, 2) := by decide +kernel
theorem dX4_numberIn_5 : decode cX4_numberIn 5 = .ok (.iload 4, 2) := by decide +kernel
theorem dX4_numberIn_7 : decode cX4_numberIn 7 = .ok (.iload_n 2, 1) := by decide +kernel
theorem dX4_numberIn_8 : decode cX4_numberIn 8 = .ok (.if_icmp .ge 24, 3) := by decide +kernel
theorem dX4_numberIn_11 : decode cX4_numberIn 11 = .ok (.iload_n 3, 1) := by decide +kernel
theorem dX4_numberIn_12 : decode cX4_numberIn 12 = .ok (.bipush 10, 2) := by decide +kernel
theorem dX4_numberIn_14 : decode cX4_numberIn 14 = .ok (.imul, 1) := by decide +kernel
theorem dX4_numberIn_15 : decode cX4_numberIn 15 = .ok (.aload_n 0, 1) := by decide +kernel
theorem dX4_numberIn_16 : decode cX4_numberIn 16 = .ok (.iload 4, 2) := by decide +kernel
theorem dX4_numberIn_18 : decode cX4_numberIn 18 = .ok (.invokevirtual 19, 3) := by decide +kernel
theorem dX4_numberIn_21 : decode cX4_numberIn 21 = .ok (.iadd, 1) := by decide +kernel
theorem dX4_numberIn_22 : decode cX4_numberIn 22 = .ok (.bipush 48, 2) := by decide +kernel
theorem dX4_numberIn_24 : decode cX4_numberIn 24 = .ok (.isub, 1) := by decide +kernel
theorem dX4_numberIn_25 : decode cX4_numberIn 25 = .ok (.istore_n 3, 1) := by decide +kernel
theorem dX4_numberIn_26 : decode cX4_numberIn 26 = .ok (.iinc 4 1, 3) := by decide +kernel
theorem dX4_numberIn_29 : decode cX4_numberIn 29 = .ok (.goto (-24), 3) := by decide +kernel
theorem dX4_numberIn_32 : decode cX4_numberIn 32 = .ok (.iload_n 3, 1) := by decide +kernel
theorem dX4_numberIn_33 : decode cX4_numberIn 33 = .ok (.ireturn, 1) := by decide +kernel
set_option maxRecDepth 20000 in
theorem ggX4_stateAfter_X4_stateAfterMandateDigit : GoodIn wsX4_stateAfter wsX4_stateAfterMandateDigit := goodIn_r _ [4, 5, 6, 3, 7] (by decide +kernel) (by decide +kernel)
set_option maxRecDepth 20000 in
theorem gX4_stateAfter_X4_stateAfterMandateDigit : GoodIn wsX4_stateAfter (va_wsS RX4 31 yX4_stateAfterMandateDigit wsX4_stateAfterMandateDigit) := goodIn_app (goodIn_of _ (by decide +kernel)) ggX4_stateAfter_X4_stateAfterMandateDigit
set_option maxRecDepth 20000 in
theorem ggX4_stateAfter_X4_stateAfterMandate : GoodIn wsX4_stateAfter wsX4_stateAfterMandate := goodIn_r _ [10] (by decide +kernel) (by decide +kernel)
set_option maxRecDepth 20000 in
theorem gX4_stateAfter_X4_stateAfterMandate : GoodIn wsX4_stateAfter (va_wsS RX4 34 yX4_stateAfterMandate wsX4_stateAfterMandate) := goodIn_app (goodIn_of _ (by decide +kernel)) ggX4_stateAfter_X4_stateAfterMandate
set_option maxRecDepth 20000 in
theorem ggX4_stateAfter_X4_isDigit : GoodIn wsX4_stateAfter wsX4_isDigit := goodIn_r _ [7] (by decide +kernel) (by decide +kernel)
set_option maxRecDepth 20000 in
theorem gX4_stateAfter_X4_isDigit : GoodIn wsX4_stateAfter (va_wsS RX4 27 yX4_isDigit wsX4_isDigit) := goodIn_app (goodIn_of _ (by decide +kernel)) ggX4_stateAfter_X4_isDigit
set_option maxRecDepth 20000 in
theorem ggX4_stateAfter_X4_stateAfterAmountDigit : GoodIn wsX4_stateAfter wsX4_stateAfterAmountDigit := goodIn_r _ [13, 5, 6, 3, 7] (by decide +kernel) (by decide +kernel)
set_option maxRecDepth 20000 in
theorem gX4_stateAfter_X4_stateAfterAmountDigit : GoodIn wsX4_stateAfter (va_wsS RX4 37 yX4_stateAfterAmountDigit wsX4_stateAfterAmountDigit) := goodIn_app (goodIn_of _ (by decide +kernel)) ggX4_stateAfter_X4_stateAfterAmountDigit
theorem dX4_stateAfter_0 : decode cX4_stateAfter 0 = .ok (.iload_n 0, 1) := by decide +kernel
theorem dX4_stateAfter_1 : decode cX4_stateAfter 1 = .ok (.tableswitch 109 (-1) 4 #[107, 39, 57, 62, 83, 88], 39) := by decide +kernel
theorem dX4_stateAfter_40 : decode cX4_stateAfter 40 = .ok (.iload_n 1, 1) := by decide +kernel
theorem dX4_stateAfter_41 : decode cX4_stateAfter 41 = .ok (.bipush 115, 2) := by decide +kernel
theorem dX4_stateAfter_43 : decode cX4_stateAfter 43 = .ok (.if_icmp .eq 9, 3) := by decide +kernel
theorem dX4_stateAfter_46 : decode cX4_stateAfter 46 = .ok (.iload_n 1, 1) := by decide +kernel
theorem dX4_stateAfter_47 : decode cX4_stateAfter 47 = .ok (.bipush 117, 2) := by decide +kernel
theorem dX4_stateAfter_49 : decode cX4_stateAfter 49 = .ok (.if_icmp .ne 7, 3) := by decide +kernel
theorem dX4_stateAfter_52 : decode cX4_stateAfter 52 = .ok (.iconst 1, 1) := by decide +kernel
theorem dX4_stateAfter_53 : decode cX4_stateAfter 53 = .ok (.goto 4, 3) := by decide +kernel
theorem dX4_stateAfter_56 : decode cX4_stateAfter 56 = .ok (.iconst (-1), 1) := by decide +kernel
theorem dX4_stateAfter_57 : decode cX4_stateAfter 57 = .ok (.ireturn, 1) := by decide +kernel
theorem dX4_stateAfter_58 : decode cX4_stateAfter 58 = .ok (.iload_n 1, 1) := by decide +kernel
theorem dX4_stateAfter_59 : decode cX4_stateAfter 59 = .ok (.invokestatic 31, 3) := by decide +kernel
theorem dX4_stateAfter_62 : decode cX4_stateAfter 62 = .ok (.ireturn, 1) := by decide +kernel
theorem dX4_stateAfter_63 : decode cX4_stateAfter 63 = .ok (.iload_n 1, 1) := by decide +kernel
theorem dX4_stateAfter_64 : decode cX4_stateAfter 64 = .ok (.bipush 48, 2) := by decide +kernel
theorem dX4_stateAfter_66 : decode cX4_stateAfter 66 = .ok (.if_icmp .eq 9, 3) := by decide +kernel
theorem dX4_stateAfter_69 : decode cX4_stateAfter 69 = .ok (.iload_n 1, 1) := by decide +kernel
theorem dX4_stateAfter_70 : decode cX4_stateAfter 70 = .ok (.bipush 49, 2) := by decide +kernel
theorem dX4_stateAfter_72 : decode cX4_stateAfter 72 = .ok (.if_icmp .ne 7, 3) := by decide +kernel
theorem dX4_stateAfter_75 : decode cX4_stateAfter 75 = .ok (.iconst 3, 1) := by decide +kernel
theorem dX4_stateAfter_76 : decode cX4_stateAfter 76 = .ok (.goto 7, 3) := by decide +kernel
theorem dX4_stateAfter_79 : decode cX4_stateAfter 79 = .ok (.iload_n 1, 1) := by decide +kernel
theorem dX4_stateAfter_80 : decode cX4_stateAfter 80 = .ok (.invokestatic 34, 3) := by decide +kernel
theorem dX4_stateAfter_83 : decode cX4_stateAfter 83 = .ok (.ireturn, 1) := by decide +kernel
theorem dX4_stateAfter_84 : decode cX4_stateAfter 84 = .ok (.iload_n 1, 1) := by decide +kernel
theorem dX4_stateAfter_85 : decode cX4_stateAfter 85 = .ok (.invokestatic 34, 3) := by decide +kernel
theorem dX4_stateAfter_88 : decode cX4_stateAfter 88 = .ok (.ireturn, 1) := by decide +kernel
theorem dX4_stateAfter_89 : decode cX4_stateAfter 89 = .ok (.iload_n 1, 1) := by decide +kernel
theorem dX4_stateAfter_90 : decode cX4_stateAfter 90 = .ok (.invokestatic 27, 3) := by decide +kernel
theorem dX4_stateAfter_93 : decode cX4_stateAfter 93 = .ok (.ifCond .eq 13, 3) := by decide +kernel
theorem dX4_stateAfter_96 : decode cX4_stateAfter 96 = .ok (.iload_n 1, 1) := by decide +kernel
theorem dX4_stateAfter_97 : decode cX4_stateAfter 97 = .ok (.bipush 48, 2) := by decide +kernel
theorem dX4_stateAfter_99 : decode cX4_stateAfter 99 = .ok (.if_icmp .eq 7, 3) := by decide +kernel
theorem dX4_stateAfter_102 : decode cX4_stateAfter 102 = .ok (.iconst 5, 1) := by decide +kernel
theorem dX4_stateAfter_103 : decode cX4_stateAfter 103 = .ok (.goto 4, 3) := by decide +kernel
theorem dX4_stateAfter_106 : decode cX4_stateAfter 106 = .ok (.iconst (-1), 1) := by decide +kernel
theorem dX4_stateAfter_107 : decode cX4_stateAfter 107 = .ok (.ireturn, 1) := by decide +kernel
theorem dX4_stateAfter_108 : decode cX4_stateAfter 108 = .ok (.iconst (-1), 1) := by decide +kernel
theorem dX4_stateAfter_109 : decode cX4_stateAfter 109 = .ok (.ireturn, 1) := by decide +kernel
theorem dX4_stateAfter_110 : decode cX4_stateAfter 110 = .ok (.iload_n 0, 1) := by decide +kernel
theorem dX4_stateAfter_111 : decode cX4_stateAfter 111 = .ok (.iload_n 1, 1) := by decide +kernel
theorem dX4_stateAfter_112 : decode cX4_stateAfter 112 = .ok (.invokestatic 37, 3) := by decide +kernel
theorem dX4_stateAfter_115 : decode cX4_stateAfter 115 = .ok (.ireturn, 1) := by decide +kernel
set_option maxRecDepth 20000 in
theorem ggX4_stateAfterMandateDigit_X4_isDigit : GoodIn wsX4_stateAfterMandateDigit wsX4_isDigit := goodIn_r _ [4] (by decide +kernel) (by decide +kernel)
set_option maxRecDepth 20000 in
theorem gX4_stateAfterMandateDigit_X4_isDigit : GoodIn wsX4_stateAfterMandateDigit (va_wsS RX4 27 yX4_isDigit wsX4_isDigit) := goodIn_app (goodIn_of _ (by decide +kernel)) ggX4_stateAfterMandateDigit_X4_isDigit
theorem dX4_stateAfterMandateDigit_0 : decode cX4_stateAfterMandateDigit 0 = .ok (.iload_n 0, 1) := by decide +kernel
theorem dX4_stateAfterMandateDigit_1 : decode cX4_stateAfterMandateDigit 1 = .ok (.bipush 49, 2) := by decide +kernel
theorem dX4_stateAfterMandateDigit_3 : decode cX4_stateAfterMandateDigit 3 = .ok (.if_icmp .ne 5, 3) := by decide +kernel
theorem dX4_stateAfterMandateDigit_6 : decode cX4_stateAfterMandateDigit 6 = .ok (.iconst 2, 1) := by decide +kernel
theorem dX4_stateAfterMandateDigit_7 : decode cX4_stateAfterMandateDigit 7 = .ok (.ireturn, 1) := by decide +kernel
theorem dX4_stateAfterMandateDigit_8 : decode cX4_stateAfterMandateDigit 8 = .ok (.iload_n 0, 1) := by decide +kernel
theorem dX4_stateAfterMandateDigit_9 : decode cX4_stateAfterMandateDigit 9 = .ok (.invokestatic 27, 3) := by decide +kernel
theorem dX4_stateAfterMandateDigit_12 : decode cX4_stateAfterMandateDigit 12 = .ok (.ifCond .eq 7, 3) := by decide +kernel
theorem dX4_stateAfterMandateDigit_15 : decode cX4_stateAfterMandateDigit 15 = .ok (.iconst 3, 1) := by decide +kernel
theorem dX4_stateAfterMandateDigit_16 : decode cX4_stateAfterMandateDigit 16 = .ok (.goto 4, 3) := by decide +kernel
theorem dX4_stateAfterMandateDigit_19 : decode cX4_stateAfterMandateDigit 19 = .ok (.iconst (-1), 1) := by decide +kernel
theorem dX4_stateAfterMandateDigit_20 : decode cX4_stateAfterMandateDigit 20 = .ok (.ireturn, 1) := by decide +kernel
theorem dX4_stateAfterMandate_0 : decode cX4_stateAfterMandate 0 = .ok (.iload_n 0, 1) := by decide +kernel
theorem dX4_stateAfterMandate_1 : decode cX4_stateAfterMandate 1 = .ok (.bipush 58, 2) := by decide +kernel
theorem dX4_stateAfterMandate_3 : decode cX4_stateAfterMandate 3 = .ok (.if_icmp .ne 7, 3) := by decide +kernel
theorem dX4_stateAfterMandate_6 : decode cX4_stateAfterMandate 6 = .ok (.iconst 4, 1) := by decide +kernel
theorem dX4_stateAfterMandate_7 : decode cX4_stateAfterMandate 7 = .ok (.goto 4, 3) := by decide +kernel
theorem dX4_stateAfterMandate_10 : decode cX4_stateAfterMandate 10 = .ok (.iconst (-1), 1) := by decide +kernel
theorem dX4_stateAfterMandate_11 : decode cX4_stateAfterMandate 11 = .ok (.ireturn, 1) := by decide +kernel
set_option maxRecDepth 20000 in
theorem ggX4_stateAfterAmountDigit_X4_isDigit : GoodIn wsX4_stateAfterAmountDigit wsX4_isDigit := goodIn_r _ [4] (by decide +kernel) (by decide +kernel)
set_option maxRecDepth 20000 in
theorem gX4_stateAfterAmountDigit_X4_isDigit : GoodIn wsX4_stateAfterAmountDigit (va_wsS RX4 27 yX4_isDigit wsX4_isDigit) := goodIn_app (goodIn_of _ (by decide +kernel)) ggX4_stateAfterAmountDigit_X4_isDigit
theorem dX4_stateAfterAmountDigit_0 : decode cX4_stateAfterAmountDigit 0 = .ok (.iload_n 1, 1) := by decide +kernel
theorem dX4_stateAfterAmountDigit_1 : decode cX4_stateAfterAmountDigit 1 = .ok (.bipush 59, 2) := by decide +kernel
theorem dX4_stateAfterAmountDigit_3 : decode cX4_stateAfterAmountDigit 3 = .ok (.if_icmp .ne 5, 3) := by decide +kernel
theorem dX4_stateAfterAmountDigit_6 : decode cX4_stateAfterAmountDigit 6 = .ok (.iconst 0, 1) := by decide +kernel
theorem dX4_stateAfterAmountDigit_7 : decode cX4_stateAfterAmountDigit 7 = .ok (.ireturn, 1) := by decide +kernel
theorem dX4_stateAfterAmountDigit_8 : decode cX4_stateAfterAmountDigit 8 = .ok (.iload_n 1, 1) := by decide +kernel
theorem dX4_stateAfterAmountDigit_9 : decode cX4_stateAfterAmountDigit 9 = .ok (.invokestatic 27, 3) := by decide +kernel
theorem dX4_stateAfterAmountDigit_12 : decode cX4_stateAfterAmountDigit 12 = .ok (.ifCond .eq 15, 3) := by decide +kernel
theorem dX4_stateAfterAmountDigit_15 : decode cX4_stateAfterAmountDigit 15 = .ok (.iload_n 0, 1) := by decide +kernel
theorem dX4_stateAfterAmountDigit_16 : decode cX4_stateAfterAmountDigit 16 = .ok (.bipush 8, 2) := by decide +kernel
theorem dX4_stateAfterAmountDigit_18 : decode cX4_stateAfterAmountDigit 18 = .ok (.if_icmp .ge 9, 3) := by decide +kernel
theorem dX4_stateAfterAmountDigit_21 : decode cX4_stateAfterAmountDigit 21 = .ok (.iload_n 0, 1) := by decide +kernel
theorem dX4_stateAfterAmountDigit_22 : decode cX4_stateAfterAmountDigit 22 = .ok (.iconst 1, 1) := by decide +kernel
theorem dX4_stateAfterAmountDigit_23 : decode cX4_stateAfterAmountDigit 23 = .ok (.iadd, 1) := by decide +kernel
theorem dX4_stateAfterAmountDigit_24 : decode cX4_stateAfterAmountDigit 24 = .ok (.goto 4, 3) := by decide +kernel
theorem dX4_stateAfterAmountDigit_27 : decode cX4_stateAfterAmountDigit 27 = .ok (.iconst (-1), 1) := by decide +kernel
theorem dX4_stateAfterAmountDigit_28 : decode cX4_stateAfterAmountDigit 28 = .ok (.ireturn, 1) := by decide +kernel
theorem dX4_isDigit_0 : decode cX4_isDigit 0 = .ok (.iload_n 0, 1) := by decide +kernel
theorem dX4_isDigit_1 : decode cX4_isDigit 1 = .ok (.bipush 48, 2) := by decide +kernel
theorem dX4_isDigit_3 : decode cX4_isDigit 3 = .ok (.if_icmp .lt 13, 3) := by decide +kernel
theorem dX4_isDigit_6 : decode cX4_isDigit 6 = .ok (.iload_n 0, 1) := by decide +kernel
theorem dX4_isDigit_7 : decode cX4_isDigit 7 = .ok (.bipush 57, 2) := by decide +kernel
theorem dX4_isDigit_9 : decode cX4_isDigit 9 = .ok (.if_icmp .gt 7, 3) := by decide +kernel
theorem dX4_isDigit_12 : decode cX4_isDigit 12 = .ok (.iconst 1, 1) := by decide +kernel
theorem dX4_isDigit_13 : decode cX4_isDigit 13 = .ok (.goto 4, 3) := by decide +kernel
theorem dX4_isDigit_16 : decode cX4_isDigit 16 = .ok (.iconst 0, 1) := by decide +kernel
theorem dX4_isDigit_17 : decode cX4_isDigit 17 = .ok (.ireturn, 1) := by decide +kernel
set_option maxRecDepth 20000 in
theorem ggX5_init_X0_init : GoodIn wsX5_init wsX0_init := goodIn_r _ [17, 18, 2, 3, 19, 20, 21, 22, 23, 24, 25, 26, 27, 28, 29, 30, 31, 32, 33, 34, 35, 36, 37, 38, 39, 40, 41, 42, 43, 44, 45, 46, 47, 78, 58, 59, 60, 61, 62, 63, 64, 65, 66, 67, 68, 69, 79, 80, 81, 82] (by decide +kernel) (by decide +kernel)
set_option maxRecDepth 20000 in
theorem gX5_init_X0_init_n11 : GoodIn wsX5_init (wsX0_init) := ggX5_init_X0_init
set_option maxRecDepth 20000 in
theorem ggX5_init_X1_init : GoodIn wsX5_init wsX1_init := goodIn_r _ [50, 51, 2, 3, 52, 53, 5, 6, 16, 17, 18, 19, 20, 21, 22, 23, 24, 25, 26, 27, 28, 29, 30, 31, 32, 33, 34, 35, 36, 37, 38, 39, 40, 41, 42, 43, 44, 45, 46, 47, 73, 74, 75, 58, 59, 60, 61, 62, 63, 64, 65, 66, 67, 68, 69, 78, 79, 80, 81, 82] (by decide +kernel) (by decide +kernel)
set_option maxRecDepth 20000 in
theorem gX5_init_X1_init : GoodIn wsX5_init (wsX1_init) := ggX5_init_X1_init
set_option maxRecDepth 20000 in
theorem ggX5_init_X4_init : GoodIn wsX5_init wsX4_init := goodIn_r _ [55, 56, 2, 3, 27, 57, 76, 77] (by decide +kernel) (by decide +kernel)
set_option maxRecDepth 20000 in
theorem gX5_init_X4_init_n25 : GoodIn wsX5_init (wsX4_init) := ggX5_init_X4_init
theorem dX5_init_0 : decode cX5_init 0 = .ok (.aload_n 0, 1) := by decide +kernel
theorem dX5_init_1 : decode cX5_init 1 = .ok (.invokespecial 3, 3) := by decide +kernel
theorem dX5_init_4 : decode cX5_init 4 = .ok (.aload_n 0, 1) := by decide +kernel
theorem dX5_init_5 : decode cX5_init 5 = .ok (.new 9, 3) := by decide +kernel
theorem dX5_init_8 : decode cX5_init 8 = .ok (.dup, 1) := by decide +kernel
theorem dX5_init_9 : decode cX5_init 9 = .ok (.invokespecial 11, 3) := by decide +kernel
theorem dX5_init_12 : decode cX5_init 12 = .ok (.putfield 12, 3) := by decide +kernel
theorem dX5_init_15 : decode cX5_init 15 = .ok (.aload_n 0, 1) := by decide +kernel
theorem dX5_init_16 : decode cX5_init 16 = .ok (.new 16, 3) := by decide +kernel
theorem dX5_init_19 : decode cX5_init 19 = .ok (.dup, 1) := by decide +kernel
theorem dX5_init_20 : decode cX5_init 20 = .ok (.invokespecial 18, 3) := by decide +kernel
theorem dX5_init_23 : decode cX5_init 23 = .ok (.putfield 19, 3) := by decide +kernel
theorem dX5_init_26 : decode cX5_init 26 = .ok (.aload_n 0, 1) := by decide +kernel
theorem dX5_init_27 : decode cX5_init 27 = .ok (.new 23, 3) := by decide +kernel
theorem dX5_init_30 : decode cX5_init 30 = .ok (.dup, 1) := by decide +kernel
theorem dX5_init_31 : decode cX5_init 31 = .ok (.invokespecial 25, 3) := by decide +kernel
theorem dX5_init_34 : decode cX5_init 34 = .ok (.putfield 26, 3) := by decide +kernel
theorem dX5_init_37 : decode cX5_init 37 = .ok (.return_, 1) := by decide +kernel
set_option maxRecDepth 20000 in
theorem ggX5_give_X5_checkMandate : GoodIn wsX5_give wsX5_checkMandate := goodIn_ca (goodIn_r _ [9, 10, 11, 3, 12, 13, 14, 15, 16, 17, 114, 115, 116, 117, 118, 119, 120, 121, 122, 123, 124, 125, 126, 127, 128, 129, 130, 131, 132, 133] (by decide +kernel) (by decide +kernel)) (goodIn_sub (fun _ h => List.mem_cons_of_mem _ (List.mem_append_left _ (List.mem_append_right _ h))) (by decide +kernel))
set_option maxRecDepth 20000 in
theorem gX5_give_X5_checkMandate : GoodIn wsX5_give (wsV RX5 30 RX5 yX5_checkMandate wsX5_checkMandate) := goodIn_app (goodIn_of _ (by decide +kernel)) ggX5_give_X5_checkMandate
set_option maxRecDepth 20000 in
theorem ggX5_give_X5_checkRange : GoodIn wsX5_give wsX5_checkRange := goodIn_ca (goodIn_r _ [20, 21, 22] (by decide +kernel) (by decide +kernel)) (goodIn_sub (fun _ h => List.mem_cons_of_mem _ (List.mem_append_right _ h)) (by decide +kernel))
set_option maxRecDepth 20000 in
theorem gX5_give_X5_checkRange : GoodIn wsX5_give (va_wsS RX5 34 yX5_checkRange wsX5_checkRange) := goodIn_app (goodIn_of _ (by decide +kernel)) ggX5_give_X5_checkRange
set_option maxRecDepth 20000 in
theorem ggX5_give_X0_hasPlaceUnder : GoodIn wsX5_give wsX0_hasPlaceUnder := goodIn_r _ [27, 28, 29, 30, 31, 32, 33, 34, 35, 36, 37, 38, 39, 15, 40, 17, 41, 13, 14, 16, 42, 43, 44, 45, 46, 47, 48, 49, 50, 51, 52, 53, 54, 55, 56, 57, 58, 59, 60, 61, 62, 63, 64, 65, 66, 117, 118, 119, 120, 121, 122, 123, 124, 125, 126, 127, 128, 129, 130, 131, 132, 133] (by decide +kernel) (by decide +kernel)
set_option maxRecDepth 20000 in
theorem gX5_give_X0_hasPlaceUnder : GoodIn wsX5_give (wsV RX5 38 RX0 yX0_hasPlaceUnder wsX0_hasPlaceUnder) := goodIn_app (goodIn_of _ (by decide +kernel)) ggX5_give_X0_hasPlaceUnder
set_option maxRecDepth 20000 in
theorem ggX5_give_X1_keep : GoodIn wsX5_give wsX1_keep := goodIn_r _ [71, 72, 73, 74, 75, 76, 70, 77, 78, 79, 80, 81, 82, 83, 84, 26, 85, 28, 86, 87, 88, 89, 29, 90, 91, 92, 93, 94, 95, 96, 97, 98, 33, 99, 35, 47, 134, 135, 136, 117, 118, 119, 120, 121, 122, 123, 124, 125, 126, 127, 128, 129, 130, 131, 132, 133] (by decide +kernel) (by decide +kernel)
set_option maxRecDepth 20000 in
theorem gX5_give_X1_keep : GoodIn wsX5_give (wsV RX5 49 RX1 yX1_keep wsX1_keep) := goodIn_app (goodIn_of _ (by decide +kernel)) ggX5_give_X1_keep
set_option maxRecDepth 20000 in
theorem ggX5_give_X2_begin : GoodIn wsX5_give wsX2_begin := goodIn_r _ [103, 17, 104, 105, 106, 33, 107, 35, 46, 108, 31, 32, 34, 36, 109, 110, 111, 112, 47, 113, 129, 130, 131, 132, 133] (by decide +kernel) (by decide +kernel)
set_option maxRecDepth 20000 in
theorem gX5_give_X2_begin : GoodIn wsX5_give (wsV RX5 57 RX2 yX2_begin wsX2_begin) := goodIn_app (goodIn_of _ (by decide +kernel)) ggX5_give_X2_begin
theorem dX5_give_0 : decode cX5_give 0 = .ok (.iload_n 1, 1) := by decide +kernel
theorem dX5_give_1 : decode cX5_give 1 = .ok (.iconst (-1), 1) := by decide +kernel
theorem dX5_give_2 : decode cX5_give 2 = .ok (.if_icmp .eq 8, 3) := by decide +kernel
theorem dX5_give_5 : decode cX5_give 5 = .ok (.aload_n 0, 1) := by decide +kernel
theorem dX5_give_6 : decode cX5_give 6 = .ok (.iload_n 1, 1) := by decide +kernel
theorem dX5_give_7 : decode cX5_give 7 = .ok (.invokevirtual 30, 3) := by decide +kernel
theorem dX5_give_10 : decode cX5_give 10 = .ok (.iload_n 2, 1) := by decide +kernel
theorem dX5_give_11 : decode cX5_give 11 = .ok (.iconst 0, 1) := by decide +kernel
theorem dX5_give_12 : decode cX5_give 12 = .ok (.bipush 7, 2) := by decide +kernel
theorem dX5_give_14 : decode cX5_give 14 = .ok (.invokestatic 34, 3) := by decide +kernel
theorem dX5_give_17 : decode cX5_give 17 = .ok (.iload_n 3, 1) := by decide +kernel
theorem dX5_give_18 : decode cX5_give 18 = .ok (.iconst 1, 1) := by decide +kernel
theorem dX5_give_19 : decode cX5_give 19 = .ok (.sipush 9999, 3) := by decide +kernel
theorem dX5_give_22 : decode cX5_give 22 = .ok (.invokestatic 34, 3) := by decide +kernel
theorem dX5_give_25 : decode cX5_give 25 = .ok (.iload 4, 2) := by decide +kernel
theorem dX5_give_27 : decode cX5_give 27 = .ok (.iconst 1, 1) := by decide +kernel
theorem dX5_give_28 : decode cX5_give 28 = .ok (.sipush 9999, 3) := by decide +kernel
theorem dX5_give_31 : decode cX5_give 31 = .ok (.invokestatic 34, 3) := by decide +kernel
theorem dX5_give_34 : decode cX5_give 34 = .ok (.iload 5, 2) := by decide +kernel
theorem dX5_give_36 : decode cX5_give 36 = .ok (.iconst 0, 1) := by decide +kernel
theorem dX5_give_37 : decode cX5_give 37 = .ok (.iconst 3, 1) := by decide +kernel
theorem dX5_give_38 : decode cX5_give 38 = .ok (.invokestatic 34, 3) := by decide +kernel
theorem dX5_give_41 : decode cX5_give 41 = .ok (.aload_n 0, 1) := by decide +kernel
theorem dX5_give_42 : decode cX5_give 42 = .ok (.getfield 12, 3) := by decide +kernel
theorem dX5_give_45 : decode cX5_give 45 = .ok (.iload_n 1, 1) := by decide +kernel
theorem dX5_give_46 : decode cX5_give 46 = .ok (.iload_n 3, 1) := by decide +kernel
theorem dX5_give_47 : decode cX5_give 47 = .ok (.iload 4, 2) := by decide +kernel
theorem dX5_give_49 : decode cX5_give 49 = .ok (.invokevirtual 38, 3) := by decide +kernel
theorem dX5_give_52 : decode cX5_give 52 = .ok (.ifCond .ne 13, 3) := by decide +kernel
theorem dX5_give_55 : decode cX5_give 55 = .ok (.new 42, 3) := by decide +kernel
theorem dX5_give_58 : decode cX5_give 58 = .ok (.dup, 1) := by decide +kernel
theorem dX5_give_59 : decode cX5_give 59 = .ok (.ldc 44, 2) := by decide +kernel
theorem dX5_give_61 : decode cX5_give 61 = .ok (.invokespecial 46, 3) := by decide +kernel
theorem dX5_give_64 : decode cX5_give 64 = .ok (.athrow, 1) := by decide +kernel
theorem dX5_give_65 : decode cX5_give 65 = .ok (.aload_n 0, 1) := by decide +kernel
theorem dX5_give_66 : decode cX5_give 66 = .ok (.getfield 19, 3) := by decide +kernel
theorem dX5_give_69 : decode cX5_give 69 = .ok (.aload_n 0, 1) := by decide +kernel
theorem dX5_give_70 : decode cX5_give 70 = .ok (.getfield 12, 3) := by decide +kernel
theorem dX5_give_73 : decode cX5_give 73 = .ok (.invokevirtual 49, 3) := by decide +kernel
theorem dX5_give_76 : decode cX5_give 76 = .ok (.aload_n 0, 1) := by decide +kernel
theorem dX5_give_77 : decode cX5_give 77 = .ok (.getfield 12, 3) := by decide +kernel
theorem dX5_give_80 : decode cX5_give 80 = .ok (.getfield 53, 3) := by decide +kernel
theorem dX5_give_83 : decode cX5_give 83 = .ok (.iload_n 1, 1) := by decide +kernel
theorem dX5_give_84 : decode cX5_give 84 = .ok (.iload_n 2, 1) := by decide +kernel
theorem dX5_give_85 : decode cX5_give 85 = .ok (.iload_n 3, 1) := by decide +kernel
theorem dX5_give_86 : decode cX5_give 86 = .ok (.iload 4, 2) := by decide +kernel
theorem dX5_give_88 : decode cX5_give 88 = .ok (.iload 5, 2) := by decide +kernel
theorem dX5_give_90 : decode cX5_give 90 = .ok (.invokevirtual 57, 3) := by decide +kernel
theorem dX5_give_93 : decode cX5_give 93 = .ok (.ireturn, 1) := by decide +kernel
set_option maxRecDepth 20000 in
theorem ggX5_withdraw_X5_checkMandate : GoodIn wsX5_withdraw wsX5_checkMandate := goodIn_ca (goodIn_r _ [7, 8, 9, 2, 10, 11, 12, 13, 14, 15, 110, 111, 112, 113, 114, 115, 116, 117, 118, 119, 120, 121, 122, 123, 124, 125, 126, 127, 128, 129] (by decide +kernel) (by decide +kernel)) (goodIn_sub (fun _ h => List.mem_cons_of_mem _ (List.mem_append_left _ (List.mem_append_right _ h))) (by decide +kernel))
set_option maxRecDepth 20000 in
theorem gX5_withdraw_X5_checkMandate : GoodIn wsX5_withdraw (wsV RX5 30 RX5 yX5_checkMandate wsX5_checkMandate) := goodIn_app (goodIn_of _ (by decide +kernel)) ggX5_withdraw_X5_checkMandate
set_option maxRecDepth 20000 in
theorem ggX5_withdraw_X5_checkStands : GoodIn wsX5_withdraw wsX5_checkStands := goodIn_ca (goodIn_r _ [19, 20, 21, 2, 22, 23, 24, 13, 25, 15, 26, 11, 12, 14, 27, 28, 29, 30, 31, 32, 33, 34, 110, 111, 112, 113, 114, 115, 116, 117, 118, 119, 120, 121, 122, 123, 124, 125, 126, 127, 128, 129] (by decide +kernel) (by decide +kernel)) (goodIn_sub (fun _ h => List.mem_cons_of_mem _ (List.mem_append_right _ h)) (by decide +kernel))
set_option maxRecDepth 20000 in
theorem gX5_withdraw_X5_checkStands : GoodIn wsX5_withdraw (wsV RX5 63 RX5 yX5_checkStands wsX5_checkStands) := goodIn_app (goodIn_of _ (by decide +kernel)) ggX5_withdraw_X5_checkStands
set_option maxRecDepth 20000 in
theorem ggX5_withdraw_X1_keep : GoodIn wsX5_withdraw wsX1_keep := goodIn_r _ [39, 40, 41, 42, 43, 44, 38, 45, 46, 47, 48, 49, 50, 51, 52, 53, 54, 55, 56, 57, 58, 59, 60, 61, 62, 63, 64, 65, 66, 67, 68, 69, 30, 70, 32, 34, 130, 131, 132, 113, 114, 115, 116, 117, 118, 119, 120, 121, 122, 123, 124, 125, 126, 127, 128, 129] (by decide +kernel) (by decide +kernel)
set_option maxRecDepth 20000 in
theorem gX5_withdraw_X1_keep : GoodIn wsX5_withdraw (wsV RX5 49 RX1 yX1_keep wsX1_keep) := goodIn_app (goodIn_of _ (by decide +kernel)) ggX5_withdraw_X1_keep
set_option maxRecDepth 20000 in
theorem ggX5_withdraw_X0_lapse : GoodIn wsX5_withdraw wsX0_lapse := goodIn_r _ [74, 55, 58, 56, 65, 75, 76, 77, 13, 78, 15, 79, 23, 24, 25, 26, 11, 12, 14, 27, 28, 29, 30, 31, 32, 33, 34, 80, 81, 82, 83, 84, 85, 86, 87, 88, 89, 90, 91, 92, 93, 53, 94, 95, 96, 97, 98, 99, 100, 101, 102, 103, 104, 105, 106, 107, 108, 109, 113, 114, 115, 116, 117, 118, 119, 120, 121, 122, 123, 124, 126, 127, 128, 129, 125] (by decide +kernel) (by decide +kernel)
set_option maxRecDepth 20000 in
theorem gX5_withdraw_X0_lapse : GoodIn wsX5_withdraw (wsV RX5 66 RX0 yX0_lapse wsX0_lapse) := goodIn_app (goodIn_of _ (by decide +kernel)) ggX5_withdraw_X0_lapse
theorem dX5_withdraw_0 : decode cX5_withdraw 0 = .ok (.aload_n 0, 1) := by decide +kernel
theorem dX5_withdraw_1 : decode cX5_withdraw 1 = .ok (.iload_n 1, 1) := by decide +kernel
theorem dX5_withdraw_2 : decode cX5_withdraw 2 = .ok (.invokevirtual 30, 3) := by decide +kernel
theorem dX5_withdraw_5 : decode cX5_withdraw 5 = .ok (.aload_n 0, 1) := by decide +kernel
theorem dX5_withdraw_6 : decode cX5_withdraw 6 = .ok (.iload_n 1, 1) := by decide +kernel
theorem dX5_withdraw_7 : decode cX5_withdraw 7 = .ok (.invokevirtual 63, 3) := by decide +kernel
theorem dX5_withdraw_10 : decode cX5_withdraw 10 = .ok (.aload_n 0, 1) := by decide +kernel
theorem dX5_withdraw_11 : decode cX5_withdraw 11 = .ok (.getfield 19, 3) := by decide +kernel
theorem dX5_withdraw_14 : decode cX5_withdraw 14 = .ok (.aload_n 0, 1) := by decide +kernel
theorem dX5_withdraw_15 : decode cX5_withdraw 15 = .ok (.getfield 12, 3) := by decide +kernel
theorem dX5_withdraw_18 : decode cX5_withdraw 18 = .ok (.invokevirtual 49, 3) := by decide +kernel
theorem dX5_withdraw_21 : decode cX5_withdraw 21 = .ok (.aload_n 0, 1) := by decide +kernel
theorem dX5_withdraw_22 : decode cX5_withdraw 22 = .ok (.getfield 12, 3) := by decide +kernel
theorem dX5_withdraw_25 : decode cX5_withdraw 25 = .ok (.iload_n 1, 1) := by decide +kernel
theorem dX5_withdraw_26 : decode cX5_withdraw 26 = .ok (.invokevirtual 66, 3) := by decide +kernel
theorem dX5_withdraw_29 : decode cX5_withdraw 29 = .ok (.ireturn, 1) := by decide +kernel
set_option maxRecDepth 20000 in
theorem ggX5_limit_X5_checkMandate : GoodIn wsX5_limit wsX5_checkMandate := goodIn_ca (goodIn_r _ [9, 10, 11, 3, 12, 13, 14, 15, 16, 17, 97, 98, 99, 100, 101, 102, 103, 104, 105, 106, 107, 108, 109, 110, 111, 112, 113, 114, 115, 116] (by decide +kernel) (by decide +kernel)) (goodIn_sub (fun _ h => List.mem_cons_of_mem _ (List.mem_append_left _ (List.mem_append_right _ h))) (by decide +kernel))
set_option maxRecDepth 20000 in
theorem gX5_limit_X5_checkMandate : GoodIn wsX5_limit (wsV RX5 30 RX5 yX5_checkMandate wsX5_checkMandate) := goodIn_app (goodIn_of _ (by decide +kernel)) ggX5_limit_X5_checkMandate
set_option maxRecDepth 20000 in
theorem ggX5_limit_X5_checkRange : GoodIn wsX5_limit wsX5_checkRange := goodIn_ca (goodIn_r _ [20, 21, 22] (by decide +kernel) (by decide +kernel)) (goodIn_sub (fun _ h => List.mem_cons_of_mem _ (List.mem_append_right _ h)) (by decide +kernel))
set_option maxRecDepth 20000 in
theorem gX5_limit_X5_checkRange : GoodIn wsX5_limit (va_wsS RX5 34 yX5_checkRange wsX5_checkRange) := goodIn_app (goodIn_of _ (by decide +kernel)) ggX5_limit_X5_checkRange
set_option maxRecDepth 20000 in
theorem ggX5_limit_X5_checkStands : GoodIn wsX5_limit wsX5_checkStands := goodIn_ca (goodIn_r _ [26, 1, 2, 3, 27, 28, 29, 15, 30, 17, 31, 13, 14, 16, 32, 33, 34, 35, 36, 37, 38, 39, 97, 98, 99, 100, 101, 102, 103, 104, 105, 106, 107, 108, 109, 110, 111, 112, 113, 114, 115, 116] (by decide +kernel) (by decide +kernel)) (goodIn_sub (fun _ h => List.mem_cons_of_mem _ (List.mem_append_left _ (List.mem_append_left _ (List.mem_append_right _ h)))) (by decide +kernel))
set_option maxRecDepth 20000 in
theorem gX5_limit_X5_checkStands : GoodIn wsX5_limit (wsV RX5 63 RX5 yX5_checkStands wsX5_checkStands) := goodIn_app (goodIn_of _ (by decide +kernel)) ggX5_limit_X5_checkStands
set_option maxRecDepth 20000 in
theorem ggX5_limit_X2_canHaveLimits : GoodIn wsX5_limit wsX2_canHaveLimits := goodIn_r _ [43, 17, 32, 33, 34, 35, 36, 37, 38, 39, 44, 45, 46, 15, 47, 31, 13, 14, 16, 48, 28, 29, 30, 112, 113, 114, 115, 116] (by decide +kernel) (by decide +kernel)
set_option maxRecDepth 20000 in
theorem gX5_limit_X2_canHaveLimits : GoodIn wsX5_limit (wsV RX5 70 RX2 yX2_canHaveLimits wsX2_canHaveLimits) := goodIn_app (goodIn_of _ (by decide +kernel)) ggX5_limit_X2_canHaveLimits
set_option maxRecDepth 20000 in
theorem ggX5_limit_X1_keep : GoodIn wsX5_limit wsX1_keep := goodIn_r _ [53, 54, 55, 56, 57, 58, 52, 59, 60, 61, 62, 63, 64, 65, 66, 67, 68, 69, 70, 71, 72, 73, 74, 75, 76, 77, 78, 79, 80, 81, 82, 83, 35, 84, 37, 39, 117, 118, 119, 100, 101, 102, 103, 104, 105, 106, 107, 108, 109, 110, 111, 112, 113, 114, 115, 116] (by decide +kernel) (by decide +kernel)
set_option maxRecDepth 20000 in
theorem gX5_limit_X1_keep : GoodIn wsX5_limit (wsV RX5 49 RX1 yX1_keep wsX1_keep) := goodIn_app (goodIn_of _ (by decide +kernel)) ggX5_limit_X1_keep
set_option maxRecDepth 20000 in
theorem ggX5_limit_X2_changeLimits : GoodIn wsX5_limit wsX2_changeLimits := goodIn_r _ [88, 17, 89, 90, 91, 35, 92, 37, 38, 39, 93, 94, 95, 15, 96, 32, 33, 34, 36, 112, 113, 114, 115, 116] (by decide +kernel) (by decide +kernel)
set_option maxRecDepth 20000 in
theorem gX5_limit_X2_changeLimits : GoodIn wsX5_limit (wsV RX5 75 RX2 yX2_changeLimits wsX2_changeLimits) := goodIn_app (goodIn_of _ (by decide +kernel)) ggX5_limit_X2_changeLimits
theorem dX5_limit_0 : decode cX5_limit 0 = .ok (.aload_n 0, 1) := by decide +kernel
theorem dX5_limit_1 : decode cX5_limit 1 = .ok (.iload_n 1, 1) := by decide +kernel
theorem dX5_limit_2 : decode cX5_limit 2 = .ok (.invokevirtual 30, 3) := by decide +kernel
theorem dX5_limit_5 : decode cX5_limit 5 = .ok (.iload_n 2, 1) := by decide +kernel
theorem dX5_limit_6 : decode cX5_limit 6 = .ok (.iconst 1, 1) := by decide +kernel
theorem dX5_limit_7 : decode cX5_limit 7 = .ok (.sipush 9999, 3) := by decide +kernel
theorem dX5_limit_10 : decode cX5_limit 10 = .ok (.invokestatic 34, 3) := by decide +kernel
theorem dX5_limit_13 : decode cX5_limit 13 = .ok (.iload_n 3, 1) := by decide +kernel
theorem dX5_limit_14 : decode cX5_limit 14 = .ok (.iconst 1, 1) := by decide +kernel
theorem dX5_limit_15 : decode cX5_limit 15 = .ok (.sipush 9999, 3) := by decide +kernel
theorem dX5_limit_18 : decode cX5_limit 18 = .ok (.invokestatic 34, 3) := by decide +kernel
theorem dX5_limit_21 : decode cX5_limit 21 = .ok (.aload_n 0, 1) := by decide +kernel
theorem dX5_limit_22 : decode cX5_limit 22 = .ok (.iload_n 1, 1) := by decide +kernel
theorem dX5_limit_23 : decode cX5_limit 23 = .ok (.invokevirtual 63, 3) := by decide +kernel
theorem dX5_limit_26 : decode cX5_limit 26 = .ok (.aload_n 0, 1) := by decide +kernel
theorem dX5_limit_27 : decode cX5_limit 27 = .ok (.getfield 12, 3) := by decide +kernel
theorem dX5_limit_30 : decode cX5_limit 30 = .ok (.getfield 53, 3) := by decide +kernel
theorem dX5_limit_33 : decode cX5_limit 33 = .ok (.iload_n 1, 1) := by decide +kernel
theorem dX5_limit_34 : decode cX5_limit 34 = .ok (.iload_n 2, 1) := by decide +kernel
theorem dX5_limit_35 : decode cX5_limit 35 = .ok (.iload_n 3, 1) := by decide +kernel
theorem dX5_limit_36 : decode cX5_limit 36 = .ok (.invokevirtual 70, 3) := by decide +kernel
theorem dX5_limit_39 : decode cX5_limit 39 = .ok (.ifCond .ne 13, 3) := by decide +kernel
theorem dX5_limit_42 : decode cX5_limit 42 = .ok (.new 42, 3) := by decide +kernel
theorem dX5_limit_45 : decode cX5_limit 45 = .ok (.dup, 1) := by decide +kernel
theorem dX5_limit_46 : decode cX5_limit 46 = .ok (.ldc 73, 2) := by decide +kernel
theorem dX5_limit_48 : decode cX5_limit 48 = .ok (.invokespecial 46, 3) := by decide +kernel
theorem dX5_limit_51 : decode cX5_limit 51 = .ok (.athrow, 1) := by decide +kernel
theorem dX5_limit_52 : decode cX5_limit 52 = .ok (.aload_n 0, 1) := by decide +kernel
theorem dX5_limit_53 : decode cX5_limit 53 = .ok (.getfield 19, 3) := by decide +kernel
theorem dX5_limit_56 : decode cX5_limit 56 = .ok (.aload_n 0, 1) := by decide +kernel
theorem dX5_limit_57 : decode cX5_limit 57 = .ok (.getfield 12, 3) := by decide +kernel
theorem dX5_limit_60 : decode cX5_limit 60 = .ok (.invokevirtual 49, 3) := by decide +kernel
theorem dX5_limit_63 : decode cX5_limit 63 = .ok (.aload_n 0, 1) := by decide +kernel
theorem dX5_limit_64 : decode cX5_limit 64 = .ok (.getfield 12, 3) := by decide +kernel
theorem dX5_limit_67 : decode cX5_limit 67 = .ok (.getfield 53, 3) := by decide +kernel
theorem dX5_limit_70 : decode cX5_limit 70 = .ok (.iload_n 1, 1) := by decide +kernel
theorem dX5_limit_71 : decode cX5_limit 71 = .ok (.iload_n 2, 1) := by decide +kernel
theorem dX5_limit_72 : decode cX5_limit 72 = .ok (.iload_n 3, 1) := by decide +kernel
theorem dX5_limit_73 : decode cX5_limit 73 = .ok (.invokevirtual 75, 3) := by decide +kernel
theorem dX5_limit_76 : decode cX5_limit 76 = .ok (.ireturn, 1) := by decide +kernel
set_option maxRecDepth 20000 in
theorem ggX5_need_X5_checkMandate : GoodIn wsX5_need wsX5_checkMandate := goodIn_ca (goodIn_r _ [7, 8, 9, 2, 10, 11, 12, 13, 14, 15, 84, 85, 86, 87, 88, 89, 90, 91, 92, 93, 94, 95, 96, 97, 98, 99, 100, 101, 102, 103] (by decide +kernel) (by decide +kernel)) (goodIn_sub (fun _ h => List.mem_cons_of_mem _ (List.mem_append_left _ (List.mem_append_left _ (List.mem_append_right _ h)))) (by decide +kernel))
set_option maxRecDepth 20000 in
theorem gX5_need_X5_checkMandate : GoodIn wsX5_need (wsV RX5 30 RX5 yX5_checkMandate wsX5_checkMandate) := goodIn_app (goodIn_of _ (by decide +kernel)) ggX5_need_X5_checkMandate
set_option maxRecDepth 20000 in
theorem ggX5_need_X5_checkRange : GoodIn wsX5_need wsX5_checkRange := goodIn_ca (goodIn_r _ [18, 19, 20] (by decide +kernel) (by decide +kernel)) (goodIn_sub (fun _ h => List.mem_cons_of_mem _ (List.mem_append_left _ (List.mem_append_right _ h))) (by decide +kernel))
set_option maxRecDepth 20000 in
theorem gX5_need_X5_checkRange : GoodIn wsX5_need (va_wsS RX5 34 yX5_checkRange wsX5_checkRange) := goodIn_app (goodIn_of _ (by decide +kernel)) ggX5_need_X5_checkRange
set_option maxRecDepth 20000 in
theorem ggX5_need_X5_checkStands : GoodIn wsX5_need wsX5_checkStands := goodIn_ca (goodIn_r _ [24, 25, 26, 2, 27, 28, 29, 13, 30, 15, 31, 11, 12, 14, 32, 33, 34, 35, 36, 37, 38, 39, 84, 85, 86, 87, 88, 89, 90, 91, 92, 93, 94, 95, 96, 97, 98, 99, 100, 101, 102, 103] (by decide +kernel) (by decide +kernel)) (goodIn_sub (fun _ h => List.mem_cons_of_mem _ (List.mem_append_right _ h)) (by decide +kernel))
set_option maxRecDepth 20000 in
theorem gX5_need_X5_checkStands : GoodIn wsX5_need (wsV RX5 63 RX5 yX5_checkStands wsX5_checkStands) := goodIn_app (goodIn_of _ (by decide +kernel)) ggX5_need_X5_checkStands
set_option maxRecDepth 20000 in
theorem ggX5_need_X1_keep : GoodIn wsX5_need wsX1_keep := goodIn_r _ [44, 45, 46, 47, 48, 49, 43, 50, 51, 52, 53, 54, 55, 56, 57, 58, 59, 60, 61, 62, 63, 64, 65, 66, 67, 68, 69, 70, 71, 72, 73, 74, 35, 75, 37, 39, 104, 105, 106, 87, 88, 89, 90, 91, 92, 93, 94, 95, 96, 97, 98, 99, 100, 101, 102, 103] (by decide +kernel) (by decide +kernel)
set_option maxRecDepth 20000 in
theorem gX5_need_X1_keep : GoodIn wsX5_need (wsV RX5 49 RX1 yX1_keep wsX1_keep) := goodIn_app (goodIn_of _ (by decide +kernel)) ggX5_need_X1_keep
set_option maxRecDepth 20000 in
theorem ggX5_need_X2_exchange : GoodIn wsX5_need wsX2_exchange := goodIn_r _ [79, 15, 32, 33, 34, 35, 36, 37, 38, 39, 80, 81, 82, 83, 99, 100, 101, 102, 103] (by decide +kernel) (by decide +kernel)
set_option maxRecDepth 20000 in
theorem gX5_need_X2_exchange : GoodIn wsX5_need (wsV RX5 79 RX2 yX2_exchange wsX2_exchange) := goodIn_app (goodIn_of _ (by decide +kernel)) ggX5_need_X2_exchange
theorem dX5_need_0 : decode cX5_need 0 = .ok (.aload_n 0, 1) := by decide +kernel
theorem dX5_need_1 : decode cX5_need 1 = .ok (.iload_n 1, 1) := by decide +kernel
theorem dX5_need_2 : decode cX5_need 2 = .ok (.invokevirtual 30, 3) := by decide +kernel
theorem dX5_need_5 : decode cX5_need 5 = .ok (.iload_n 2, 1) := by decide +kernel
theorem dX5_need_6 : decode cX5_need 6 = .ok (.iconst 0, 1) := by decide +kernel
theorem dX5_need_7 : decode cX5_need 7 = .ok (.iconst 3, 1) := by decide +kernel
theorem dX5_need_8 : decode cX5_need 8 = .ok (.invokestatic 34, 3) := by decide +kernel
theorem dX5_need_11 : decode cX5_need 11 = .ok (.aload_n 0, 1) := by decide +kernel
theorem dX5_need_12 : decode cX5_need 12 = .ok (.iload_n 1, 1) := by decide +kernel
theorem dX5_need_13 : decode cX5_need 13 = .ok (.invokevirtual 63, 3) := by decide +kernel
theorem dX5_need_16 : decode cX5_need 16 = .ok (.aload_n 0, 1) := by decide +kernel
theorem dX5_need_17 : decode cX5_need 17 = .ok (.getfield 19, 3) := by decide +kernel
theorem dX5_need_20 : decode cX5_need 20 = .ok (.aload_n 0, 1) := by decide +kernel
theorem dX5_need_21 : decode cX5_need 21 = .ok (.getfield 12, 3) := by decide +kernel
theorem dX5_need_24 : decode cX5_need 24 = .ok (.invokevirtual 49, 3) := by decide +kernel
theorem dX5_need_27 : decode cX5_need 27 = .ok (.aload_n 0, 1) := by decide +kernel
theorem dX5_need_28 : decode cX5_need 28 = .ok (.getfield 12, 3) := by decide +kernel
theorem dX5_need_31 : decode cX5_need 31 = .ok (.getfield 53, 3) := by decide +kernel
theorem dX5_need_34 : decode cX5_need 34 = .ok (.iload_n 1, 1) := by decide +kernel
theorem dX5_need_35 : decode cX5_need 35 = .ok (.iconst 4, 1) := by decide +kernel
theorem dX5_need_36 : decode cX5_need 36 = .ok (.iload_n 2, 1) := by decide +kernel
theorem dX5_need_37 : decode cX5_need 37 = .ok (.invokevirtual 79, 3) := by decide +kernel
theorem dX5_need_40 : decode cX5_need 40 = .ok (.ireturn, 1) := by decide +kernel
set_option maxRecDepth 20000 in
theorem ggX5_spend_X5_askFor : GoodIn wsX5_spend wsX5_askFor := goodIn_ca (goodIn_ca (goodIn_ca (goodIn_r _ [5, 6, 7, 8, 9, 10, 11, 12, 4, 13, 14, 15, 16, 17, 18, 19, 20, 21, 22, 23, 24, 25, 26, 27, 28, 29, 30, 31, 32, 33, 34, 35, 36, 37, 38, 39, 40, 41, 42, 43, 44, 45, 46, 47, 48, 49, 50, 51, 52, 53, 54, 55, 56, 57, 58, 59, 60, 61, 62, 63, 64, 65, 66, 67, 68, 69, 70, 71, 72, 73, 74, 75, 76, 77, 78, 79, 80, 81, 82, 83, 84, 85, 86, 87, 88, 89, 90, 91, 92, 93, 94, 95, 96, 97, 98, 99, 100, 101, 102, 103, 104, 105, 106, 107, 108, 109, 110, 111, 112, 113, 114, 115, 116, 117, 118, 119, 120, 121, 122, 123, 124, 125, 126, 127, 128, 129, 130, 131, 132, 133, 134, 135, 136, 137, 138, 139, 140, 141, 142, 143, 144, 145, 146, 147, 148, 149, 150, 151, 152, 153, 154] (by decide +kernel) (by decide +kernel)) (goodIn_sub (fun _ h => List.mem_cons_of_mem _ (List.mem_append_left _ (List.mem_append_left _ (List.mem_append_right _ h)))) (by decide +kernel))) (goodIn_sub (fun _ h => List.mem_cons_of_mem _ (List.mem_append_left _ (List.mem_append_right _ h))) (by decide +kernel))) (goodIn_sub (fun _ h => List.mem_cons_of_mem _ (List.mem_append_right _ h)) (by decide +kernel))
set_option maxRecDepth 20000 in
theorem gX5_spend_X5_askFor : GoodIn wsX5_spend (wsV RX5 82 RX5 yX5_askFor wsX5_askFor) := goodIn_app (goodIn_of _ (by decide +kernel)) ggX5_spend_X5_askFor
theorem dX5_spend_0 : decode cX5_spend 0 = .ok (.aload_n 0, 1) := by decide +kernel
theorem dX5_spend_1 : decode cX5_spend 1 = .ok (.iload_n 1, 1) := by decide +kernel
theorem dX5_spend_2 : decode cX5_spend 2 = .ok (.iload_n 2, 1) := by decide +kernel
theorem dX5_spend_3 : decode cX5_spend 3 = .ok (.iconst 0, 1) := by decide +kernel
theorem dX5_spend_4 : decode cX5_spend 4 = .ok (.invokevirtual 82, 3) := by decide +kernel
theorem dX5_spend_7 : decode cX5_spend 7 = .ok (.ireturn, 1) := by decide +kernel
set_option maxRecDepth 20000 in
theorem ggX5_urge_X5_askFor : GoodIn wsX5_urge wsX5_askFor := goodIn_ca (goodIn_ca (goodIn_ca (goodIn_r _ [5, 6, 7, 8, 9, 10, 11, 12, 4, 13, 14, 15, 16, 17, 18, 19, 20, 21, 22, 23, 24, 25, 26, 27, 28, 29, 30, 31, 32, 33, 34, 35, 36, 37, 38, 39, 40, 41, 42, 43, 44, 45, 46, 47, 48, 49, 50, 51, 52, 53, 54, 55, 56, 57, 58, 59, 60, 61, 62, 63, 64, 65, 66, 67, 68, 69, 70, 71, 72, 73, 74, 75, 76, 77, 78, 79, 80, 81, 82, 83, 84, 85, 86, 87, 88, 89, 90, 91, 92, 93, 94, 95, 96, 97, 98, 99, 100, 101, 102, 103, 104, 105, 106, 107, 108, 109, 110, 111, 112, 113, 114, 115, 116, 117, 118, 119, 120, 121, 122, 123, 124, 125, 126, 127, 128, 129, 130, 131, 132, 133, 134, 135, 136, 137, 138, 139, 140, 141, 142, 143, 144, 145, 146, 147, 148, 149, 150, 151, 152, 153, 154] (by decide +kernel) (by decide +kernel)) (goodIn_sub (fun _ h => List.mem_cons_of_mem _ (List.mem_append_left _ (List.mem_append_left _ (List.mem_append_right _ h)))) (by decide +kernel))) (goodIn_sub (fun _ h => List.mem_cons_of_mem _ (List.mem_append_left _ (List.mem_append_right _ h))) (by decide +kernel))) (goodIn_sub (fun _ h => List.mem_cons_of_mem _ (List.mem_append_right _ h)) (by decide +kernel))
set_option maxRecDepth 20000 in
theorem gX5_urge_X5_askFor : GoodIn wsX5_urge (wsV RX5 82 RX5 yX5_askFor wsX5_askFor) := goodIn_app (goodIn_of _ (by decide +kernel)) ggX5_urge_X5_askFor
theorem dX5_urge_0 : decode cX5_urge 0 = .ok (.aload_n 0, 1) := by decide +kernel
theorem dX5_urge_1 : decode cX5_urge 1 = .ok (.iload_n 1, 1) := by decide +kernel
theorem dX5_urge_2 : decode cX5_urge 2 = .ok (.iload_n 2, 1) := by decide +kernel
theorem dX5_urge_3 : decode cX5_urge 3 = .ok (.iconst 1, 1) := by decide +kernel
theorem dX5_urge_4 : decode cX5_urge 4 = .ok (.invokevirtual 82, 3) := by decide +kernel
theorem dX5_urge_7 : decode cX5_urge 7 = .ok (.ireturn, 1) := by decide +kernel
set_option maxRecDepth 20000 in
theorem ggX5_approve_X5_checkRequest : GoodIn wsX5_approve wsX5_checkRequest := goodIn_ca (goodIn_r _ [9, 10, 11, 3, 139, 140, 141, 142, 143, 144, 145, 146, 147, 148, 149, 150, 151, 152, 153, 154, 155, 156, 157] (by decide +kernel) (by decide +kernel)) (goodIn_sub (fun _ h => List.mem_cons_of_mem _ (List.mem_append_right _ h)) (by decide +kernel))
set_option maxRecDepth 20000 in
theorem gX5_approve_X5_checkRequest : GoodIn wsX5_approve (wsV RX5 86 RX5 yX5_checkRequest wsX5_checkRequest) := goodIn_app (goodIn_of _ (by decide +kernel)) ggX5_approve_X5_checkRequest
set_option maxRecDepth 20000 in
theorem ggX5_approve_X5_checkPerson : GoodIn wsX5_approve wsX5_checkPerson := goodIn_ca (goodIn_r _ [14, 10, 11] (by decide +kernel) (by decide +kernel)) (goodIn_sub (fun _ h => List.mem_cons_of_mem _ (List.mem_append_right _ h)) (by decide +kernel))
set_option maxRecDepth 20000 in
theorem gX5_approve_X5_checkPerson : GoodIn wsX5_approve (va_wsS RX5 89 yX5_checkPerson wsX5_checkPerson) := goodIn_app (goodIn_of _ (by decide +kernel)) ggX5_approve_X5_checkPerson
set_option maxRecDepth 20000 in
theorem ggX5_approve_X0_couldApprove : GoodIn wsX5_approve wsX0_couldApprove := goodIn_r _ [19, 20, 21, 22, 18, 23, 24, 25, 26, 27, 28, 29, 30, 31, 32, 33, 34, 35, 36, 37, 38, 39, 40, 41, 42, 43, 142, 143, 144, 145, 146, 147, 148, 149, 150, 151, 152, 153, 154, 155, 156, 157, 158] (by decide +kernel) (by decide +kernel)
set_option maxRecDepth 20000 in
theorem gX5_approve_X0_couldApprove : GoodIn wsX5_approve (wsV RX5 92 RX0 yX0_couldApprove wsX0_couldApprove) := goodIn_app (goodIn_of _ (by decide +kernel)) ggX5_approve_X0_couldApprove
set_option maxRecDepth 20000 in
theorem ggX5_approve_X1_keep : GoodIn wsX5_approve wsX1_keep := goodIn_r _ [48, 49, 50, 51, 52, 53, 47, 54, 55, 56, 57, 58, 59, 60, 61, 18, 62, 24, 25, 63, 64, 65, 66, 67, 68, 69, 70, 71, 72, 73, 74, 75, 29, 76, 31, 33, 159, 160, 161, 142, 143, 144, 145, 146, 147, 148, 149, 150, 151, 152, 153, 158, 154, 155, 156, 157] (by decide +kernel) (by decide +kernel)
set_option maxRecDepth 20000 in
theorem gX5_approve_X1_keep : GoodIn wsX5_approve (wsV RX5 49 RX1 yX1_keep wsX1_keep) := goodIn_app (goodIn_of _ (by decide +kernel)) ggX5_approve_X1_keep
set_option maxRecDepth 20000 in
theorem ggX5_approve_X0_addApproval : GoodIn wsX5_approve wsX0_addApproval := goodIn_r _ [80, 63, 25, 26, 27, 28, 29, 30, 31, 32, 33, 81, 82, 83, 84, 85, 86, 87, 88, 89, 90, 91, 92, 93, 94, 18, 95, 24, 71, 96, 97, 98, 99, 100, 101, 102, 103, 104, 105, 106, 107, 108, 109, 110, 111, 112, 37, 113, 39, 114, 115, 116, 117, 118, 119, 120, 121, 40, 122, 123, 124, 125, 126, 127, 128, 129, 130, 131, 132, 133, 67, 68, 69, 134, 135, 136, 137, 138, 142, 143, 144, 145, 146, 147, 148, 149, 150, 151, 152, 153, 154, 155, 156, 157, 158] (by decide +kernel) (by decide +kernel)
set_option maxRecDepth 20000 in
theorem gX5_approve_X0_addApproval : GoodIn wsX5_approve (wsV RX5 98 RX0 yX0_addApproval wsX0_addApproval) := goodIn_app (goodIn_of _ (by decide +kernel)) ggX5_approve_X0_addApproval
theorem dX5_approve_0 : decode cX5_approve 0 = .ok (.aload_n 0, 1) := by decide +kernel
theorem dX5_approve_1 : decode cX5_approve 1 = .ok (.iload_n 1, 1) := by decide +kernel
theorem dX5_approve_2 : decode cX5_approve 2 = .ok (.invokevirtual 86, 3) := by decide +kernel
theorem dX5_approve_5 : decode cX5_approve 5 = .ok (.iload_n 2, 1) := by decide +kernel
theorem dX5_approve_6 : decode cX5_approve 6 = .ok (.invokestatic 89, 3) := by decide +kernel
theorem dX5_approve_9 : decode cX5_approve 9 = .ok (.aload_n 0, 1) := by decide +kernel
theorem dX5_approve_10 : decode cX5_approve 10 = .ok (.getfield 12, 3) := by decide +kernel
theorem dX5_approve_13 : decode cX5_approve 13 = .ok (.iload_n 1, 1) := by decide +kernel
theorem dX5_approve_14 : decode cX5_approve 14 = .ok (.iload_n 2, 1) := by decide +kernel
theorem dX5_approve_15 : decode cX5_approve 15 = .ok (.invokevirtual 92, 3) := by decide +kernel
theorem dX5_approve_18 : decode cX5_approve 18 = .ok (.ifCond .ne 13, 3) := by decide +kernel
theorem dX5_approve_21 : decode cX5_approve 21 = .ok (.new 42, 3) := by decide +kernel
theorem dX5_approve_24 : decode cX5_approve 24 = .ok (.dup, 1) := by decide +kernel
theorem dX5_approve_25 : decode cX5_approve 25 = .ok (.ldc 96, 2) := by decide +kernel
theorem dX5_approve_27 : decode cX5_approve 27 = .ok (.invokespecial 46, 3) := by decide +kernel
theorem dX5_approve_30 : decode cX5_approve 30 = .ok (.athrow, 1) := by decide +kernel
theorem dX5_approve_31 : decode cX5_approve 31 = .ok (.aload_n 0, 1) := by decide +kernel
theorem dX5_approve_32 : decode cX5_approve 32 = .ok (.getfield 19, 3) := by decide +kernel
theorem dX5_approve_35 : decode cX5_approve 35 = .ok (.aload_n 0, 1) := by decide +kernel
theorem dX5_approve_36 : decode cX5_approve 36 = .ok (.getfield 12, 3) := by decide +kernel
theorem dX5_approve_39 : decode cX5_approve 39 = .ok (.invokevirtual 49, 3) := by decide +kernel
theorem dX5_approve_42 : decode cX5_approve 42 = .ok (.aload_n 0, 1) := by decide +kernel
theorem dX5_approve_43 : decode cX5_approve 43 = .ok (.getfield 12, 3) := by decide +kernel
theorem dX5_approve_46 : decode cX5_approve 46 = .ok (.iload_n 1, 1) := by decide +kernel
theorem dX5_approve_47 : decode cX5_approve 47 = .ok (.iload_n 2, 1) := by decide +kernel
theorem dX5_approve_48 : decode cX5_approve 48 = .ok (.invokevirtual 98, 3) := by decide +kernel
theorem dX5_approve_51 : decode cX5_approve 51 = .ok (.ireturn, 1) := by decide +kernel
set_option maxRecDepth 20000 in
theorem ggX5_takeBack_X5_checkRequest : GoodIn wsX5_takeBack wsX5_checkRequest := goodIn_ca (goodIn_r _ [9, 10, 11, 3, 73, 74, 75, 76, 77, 78, 79, 80, 81, 82, 83, 84, 85, 86, 87, 88, 89, 90, 91] (by decide +kernel) (by decide +kernel)) (goodIn_sub (fun _ h => List.mem_cons_of_mem _ (List.mem_append_right _ h)) (by decide +kernel))
set_option maxRecDepth 20000 in
theorem gX5_takeBack_X5_checkRequest : GoodIn wsX5_takeBack (wsV RX5 86 RX5 yX5_checkRequest wsX5_checkRequest) := goodIn_app (goodIn_of _ (by decide +kernel)) ggX5_takeBack_X5_checkRequest
set_option maxRecDepth 20000 in
theorem ggX5_takeBack_X0_isUrgent : GoodIn wsX5_takeBack wsX0_isUrgent := goodIn_r _ [16, 17, 18, 19, 20, 21, 22, 23, 24, 25, 76, 77, 78, 79, 80, 81, 82, 83, 84, 85, 86, 87, 88, 89, 90, 91] (by decide +kernel) (by decide +kernel)
set_option maxRecDepth 20000 in
theorem gX5_takeBack_X0_isUrgent : GoodIn wsX5_takeBack (wsV RX5 102 RX0 yX0_isUrgent wsX0_isUrgent) := goodIn_app (goodIn_of _ (by decide +kernel)) ggX5_takeBack_X0_isUrgent
set_option maxRecDepth 20000 in
theorem ggX5_takeBack_X1_keep : GoodIn wsX5_takeBack wsX1_keep := goodIn_r _ [30, 31, 32, 33, 34, 35, 29, 36, 37, 38, 39, 40, 41, 42, 43, 15, 44, 45, 17, 46, 47, 48, 49, 50, 51, 52, 53, 54, 55, 56, 57, 58, 21, 59, 23, 25, 92, 93, 94, 76, 77, 78, 79, 80, 81, 82, 83, 84, 85, 86, 87, 95, 88, 89, 90, 91] (by decide +kernel) (by decide +kernel)
set_option maxRecDepth 20000 in
theorem gX5_takeBack_X1_keep : GoodIn wsX5_takeBack (wsV RX5 49 RX1 yX1_keep wsX1_keep) := goodIn_app (goodIn_of _ (by decide +kernel)) ggX5_takeBack_X1_keep
set_option maxRecDepth 20000 in
theorem ggX5_takeBack_X0_removeRequest : GoodIn wsX5_takeBack wsX0_removeRequest := goodIn_r _ [63, 17, 18, 19, 20, 21, 22, 23, 24, 25, 64, 65, 66, 67, 68, 69, 70, 71, 72, 76, 77, 78, 79, 80, 81, 82, 83, 84, 85, 86, 87, 88, 89, 90, 91] (by decide +kernel) (by decide +kernel)
set_option maxRecDepth 20000 in
theorem gX5_takeBack_X0_removeRequest : GoodIn wsX5_takeBack (wsV RX5 108 RX0 yX0_removeRequest wsX0_removeRequest) := goodIn_app (goodIn_of _ (by decide +kernel)) ggX5_takeBack_X0_removeRequest
theorem dX5_takeBack_0 : decode cX5_takeBack 0 = .ok (.aload_n 0, 1) := by decide +kernel
theorem dX5_takeBack_1 : decode cX5_takeBack 1 = .ok (.iload_n 1, 1) := by decide +kernel
theorem dX5_takeBack_2 : decode cX5_takeBack 2 = .ok (.invokevirtual 86, 3) := by decide +kernel
theorem dX5_takeBack_5 : decode cX5_takeBack 5 = .ok (.aload_n 0, 1) := by decide +kernel
theorem dX5_takeBack_6 : decode cX5_takeBack 6 = .ok (.getfield 12, 3) := by decide +kernel
theorem dX5_takeBack_9 : decode cX5_takeBack 9 = .ok (.iload_n 1, 1) := by decide +kernel
theorem dX5_takeBack_10 : decode cX5_takeBack 10 = .ok (.invokevirtual 102, 3) := by decide +kernel
theorem dX5_takeBack_13 : decode cX5_takeBack 13 = .ok (.ifCond .eq 13, 3) := by decide +kernel
theorem dX5_takeBack_16 : decode cX5_takeBack 16 = .ok (.new 42, 3) := by decide +kernel
theorem dX5_takeBack_19 : decode cX5_takeBack 19 = .ok (.dup, 1) := by decide +kernel
theorem dX5_takeBack_20 : decode cX5_takeBack 20 = .ok (.ldc 106, 2) := by decide +kernel
theorem dX5_takeBack_22 : decode cX5_takeBack 22 = .ok (.invokespecial 46, 3) := by decide +kernel
theorem dX5_takeBack_25 : decode cX5_takeBack 25 = .ok (.athrow, 1) := by decide +kernel
theorem dX5_takeBack_26 : decode cX5_takeBack 26 = .ok (.aload_n 0, 1) := by decide +kernel
theorem dX5_takeBack_27 : decode cX5_takeBack 27 = .ok (.getfield 19, 3) := by decide +kernel
theorem dX5_takeBack_30 : decode cX5_takeBack 30 = .ok (.aload_n 0, 1) := by decide +kernel
theorem dX5_takeBack_31 : decode cX5_takeBack 31 = .ok (.getfield 12, 3) := by decide +kernel
theorem dX5_takeBack_34 : decode cX5_takeBack 34 = .ok (.invokevirtual 49, 3) := by decide +kernel
theorem dX5_takeBack_37 : decode cX5_takeBack 37 = .ok (.aload_n 0, 1) := by decide +kernel
theorem dX5_takeBack_38 : decode cX5_takeBack 38 = .ok (.getfield 12, 3) := by decide +kernel
theorem dX5_takeBack_41 : decode cX5_takeBack 41 = .ok (.iload_n 1, 1) := by decide +kernel
theorem dX5_takeBack_42 : decode cX5_takeBack 42 = .ok (.invokevirtual 108, 3) := by decide +kernel
theorem dX5_takeBack_45 : decode cX5_takeBack 45 = .ok (.ireturn, 1) := by decide +kernel
set_option maxRecDepth 20000 in
theorem ggX5_pass_X5_checkRange : GoodIn wsX5_pass wsX5_checkRange := goodIn_ca (goodIn_r _ [8, 9, 10] (by decide +kernel) (by decide +kernel)) (goodIn_sub (fun _ h => List.mem_cons_of_mem _ (List.mem_append_right _ h)) (by decide +kernel))
set_option maxRecDepth 20000 in
theorem gX5_pass_X5_checkRange : GoodIn wsX5_pass (va_wsS RX5 34 yX5_checkRange wsX5_checkRange) := goodIn_app (goodIn_of _ (by decide +kernel)) ggX5_pass_X5_checkRange
set_option maxRecDepth 20000 in
theorem ggX5_pass_X1_keep : GoodIn wsX5_pass wsX1_keep := goodIn_r _ [15, 16, 17, 18, 19, 20, 14, 21, 22, 23, 24, 25, 26, 27, 28, 29, 30, 31, 32, 33, 34, 35, 36, 37, 38, 39, 40, 41, 42, 43, 44, 45, 46, 47, 48, 49, 130, 131, 132, 118, 119, 120, 121, 122, 123, 124, 125, 126, 127, 128, 129, 133, 134, 135, 136, 137] (by decide +kernel) (by decide +kernel)
set_option maxRecDepth 20000 in
theorem gX5_pass_X1_keep : GoodIn wsX5_pass (wsV RX5 49 RX1 yX1_keep wsX1_keep) := goodIn_app (goodIn_of _ (by decide +kernel)) ggX5_pass_X1_keep
set_option maxRecDepth 20000 in
theorem ggX5_pass_X0_nextDay : GoodIn wsX5_pass wsX0_nextDay := goodIn_r _ [53, 34, 31, 38, 32, 42, 54, 55, 56, 57, 58, 59, 60, 61, 62, 63, 64, 65, 66, 46, 67, 48, 68, 49, 69, 70, 71, 29, 72, 35, 73, 74, 75, 76, 77, 78, 79, 80, 81, 82, 83, 84, 85, 86, 87, 88, 89, 90, 41, 91, 92, 93, 94, 95, 96, 97, 98, 99, 100, 101, 102, 103, 104, 105, 106, 107, 108, 109, 110, 111, 112, 113, 114, 118, 119, 120, 121, 122, 123, 124, 125, 126, 127, 128, 129, 133, 134, 135, 136, 137] (by decide +kernel) (by decide +kernel)
set_option maxRecDepth 20000 in
theorem gX5_pass_X0_nextDay : GoodIn wsX5_pass (wsV RX5 117 RX0 yX0_nextDay wsX0_nextDay) := goodIn_app (goodIn_of _ (by decide +kernel)) ggX5_pass_X0_nextDay
theorem dX5_pass_0 : decode cX5_pass 0 = .ok (.iload_n 1, 1) := by decide +kernel
theorem dX5_pass_1 : decode cX5_pass 1 = .ok (.iconst 1, 1) := by decide +kernel
theorem dX5_pass_2 : decode cX5_pass 2 = .ok (.bipush 60, 2) := by decide +kernel
theorem dX5_pass_4 : decode cX5_pass 4 = .ok (.invokestatic 34, 3) := by decide +kernel
theorem dX5_pass_7 : decode cX5_pass 7 = .ok (.aload_n 0, 1) := by decide +kernel
theorem dX5_pass_8 : decode cX5_pass 8 = .ok (.getfield 12, 3) := by decide +kernel
theorem dX5_pass_11 : decode cX5_pass 11 = .ok (.getfield 111, 3) := by decide +kernel
theorem dX5_pass_14 : decode cX5_pass 14 = .ok (.iload_n 1, 1) := by decide +kernel
theorem dX5_pass_15 : decode cX5_pass 15 = .ok (.iadd, 1) := by decide +kernel
theorem dX5_pass_16 : decode cX5_pass 16 = .ok (.sipush 5000, 3) := by decide +kernel
theorem dX5_pass_19 : decode cX5_pass 19 = .ok (.if_icmp .le 13, 3) := by decide +kernel
theorem dX5_pass_22 : decode cX5_pass 22 = .ok (.new 42, 3) := by decide +kernel
theorem dX5_pass_25 : decode cX5_pass 25 = .ok (.dup, 1) := by decide +kernel
theorem dX5_pass_26 : decode cX5_pass 26 = .ok (.ldc 115, 2) := by decide +kernel
theorem dX5_pass_28 : decode cX5_pass 28 = .ok (.invokespecial 46, 3) := by decide +kernel
theorem dX5_pass_31 : decode cX5_pass 31 = .ok (.athrow, 1) := by decide +kernel
theorem dX5_pass_32 : decode cX5_pass 32 = .ok (.aload_n 0, 1) := by decide +kernel
theorem dX5_pass_33 : decode cX5_pass 33 = .ok (.getfield 19, 3) := by decide +kernel
theorem dX5_pass_36 : decode cX5_pass 36 = .ok (.aload_n 0, 1) := by decide +kernel
theorem dX5_pass_37 : decode cX5_pass 37 = .ok (.getfield 12, 3) := by decide +kernel
theorem dX5_pass_40 : decode cX5_pass 40 = .ok (.invokevirtual 49, 3) := by decide +kernel
theorem dX5_pass_43 : decode cX5_pass 43 = .ok (.iconst 0, 1) := by decide +kernel
theorem dX5_pass_44 : decode cX5_pass 44 = .ok (.istore_n 2, 1) := by decide +kernel
theorem dX5_pass_45 : decode cX5_pass 45 = .ok (.iconst 0, 1) := by decide +kernel
theorem dX5_pass_46 : decode cX5_pass 46 = .ok (.istore_n 3, 1) := by decide +kernel
theorem dX5_pass_47 : decode cX5_pass 47 = .ok (.iload_n 3, 1) := by decide +kernel
theorem dX5_pass_48 : decode cX5_pass 48 = .ok (.iload_n 1, 1) := by decide +kernel
theorem dX5_pass_49 : decode cX5_pass 49 = .ok (.if_icmp .ge 19, 3) := by decide +kernel
theorem dX5_pass_52 : decode cX5_pass 52 = .ok (.iload_n 2, 1) := by decide +kernel
theorem dX5_pass_53 : decode cX5_pass 53 = .ok (.aload_n 0, 1) := by decide +kernel
theorem dX5_pass_54 : decode cX5_pass 54 = .ok (.getfield 12, 3) := by decide +kernel
theorem dX5_pass_57 : decode cX5_pass 57 = .ok (.invokevirtual 117, 3) := by decide +kernel
theorem dX5_pass_60 : decode cX5_pass 60 = .ok (.iadd, 1) := by decide +kernel
theorem dX5_pass_61 : decode cX5_pass 61 = .ok (.istore_n 2, 1) := by decide +kernel
theorem dX5_pass_62 : decode cX5_pass 62 = .ok (.iinc 3 1, 3) := by decide +kernel
theorem dX5_pass_65 : decode cX5_pass 65 = .ok (.goto (-18), 3) := by decide +kernel
theorem dX5_pass_68 : decode cX5_pass 68 = .ok (.iload_n 2, 1) := by decide +kernel
theorem dX5_pass_69 : decode cX5_pass 69 = .ok (.ireturn, 1) := by decide +kernel
set_option maxRecDepth 20000 in
theorem ggX5_set_X5_checkSetting : GoodIn wsX5_set wsX5_checkSetting := goodIn_ca (goodIn_r _ [6, 7, 8] (by decide +kernel) (by decide +kernel)) (goodIn_sub (fun _ h => List.mem_cons_of_mem _ (List.mem_append_left _ (List.mem_append_right _ h))) (by decide +kernel))
set_option maxRecDepth 20000 in
theorem gX5_set_X5_checkSetting : GoodIn wsX5_set (va_wsS RX5 121 yX5_checkSetting wsX5_checkSetting) := goodIn_app (goodIn_of _ (by decide +kernel)) ggX5_set_X5_checkSetting
set_option maxRecDepth 20000 in
theorem ggX5_set_X5_checkRange : GoodIn wsX5_set wsX5_checkRange := goodIn_ca (goodIn_r _ [11, 12, 13] (by decide +kernel) (by decide +kernel)) (goodIn_sub (fun _ h => List.mem_cons_of_mem _ (List.mem_append_right _ h)) (by decide +kernel))
set_option maxRecDepth 20000 in
theorem gX5_set_X5_checkRange : GoodIn wsX5_set (va_wsS RX5 34 yX5_checkRange wsX5_checkRange) := goodIn_app (goodIn_of _ (by decide +kernel)) ggX5_set_X5_checkRange
set_option maxRecDepth 20000 in
theorem ggX5_set_X1_keep : GoodIn wsX5_set wsX1_keep := goodIn_r _ [18, 19, 20, 21, 22, 23, 17, 24, 25, 26, 27, 28, 29, 30, 31, 32, 33, 34, 35, 36, 37, 38, 39, 40, 41, 42, 43, 44, 45, 46, 47, 48, 49, 50, 51, 52, 64, 65, 66, 67, 68, 69, 70, 71, 72, 73, 74, 75, 76, 77, 78, 79, 80, 81, 82, 83] (by decide +kernel) (by decide +kernel)
set_option maxRecDepth 20000 in
theorem gX5_set_X1_keep : GoodIn wsX5_set (wsV RX5 49 RX1 yX1_keep wsX1_keep) := goodIn_app (goodIn_of _ (by decide +kernel)) ggX5_set_X1_keep
set_option maxRecDepth 20000 in
theorem ggX5_set_X0_changeSetting : GoodIn wsX5_set wsX0_changeSetting := goodIn_r _ [56, 38, 39, 57, 58, 59, 32, 60, 67, 68, 69, 70, 71, 72, 73, 74, 75, 76, 77, 78] (by decide +kernel) (by decide +kernel)
set_option maxRecDepth 20000 in
theorem gX5_set_X0_changeSetting : GoodIn wsX5_set (wsV RX5 124 RX0 yX0_changeSetting wsX0_changeSetting) := goodIn_app (goodIn_of _ (by decide +kernel)) ggX5_set_X0_changeSetting
theorem dX5_set_0 : decode cX5_set 0 = .ok (.iload_n 1, 1) := by decide +kernel
theorem dX5_set_1 : decode cX5_set 1 = .ok (.invokestatic 121, 3) := by decide +kernel
theorem dX5_set_4 : decode cX5_set 4 = .ok (.iload_n 1, 1) := by decide +kernel
theorem dX5_set_5 : decode cX5_set 5 = .ok (.ifCond .ne 13, 3) := by decide +kernel
theorem dX5_set_8 : decode cX5_set 8 = .ok (.iload_n 2, 1) := by decide +kernel
theorem dX5_set_9 : decode cX5_set 9 = .ok (.iconst 0, 1) := by decide +kernel
theorem dX5_set_10 : decode cX5_set 10 = .ok (.bipush 30, 2) := by decide +kernel
theorem dX5_set_12 : decode cX5_set 12 = .ok (.invokestatic 34, 3) := by decide +kernel
theorem dX5_set_15 : decode cX5_set 15 = .ok (.goto 10, 3) := by decide +kernel
theorem dX5_set_18 : decode cX5_set 18 = .ok (.iload_n 2, 1) := by decide +kernel
theorem dX5_set_19 : decode cX5_set 19 = .ok (.iconst 1, 1) := by decide +kernel
theorem dX5_set_20 : decode cX5_set 20 = .ok (.bipush 12, 2) := by decide +kernel
theorem dX5_set_22 : decode cX5_set 22 = .ok (.invokestatic 34, 3) := by decide +kernel
theorem dX5_set_25 : decode cX5_set 25 = .ok (.aload_n 0, 1) := by decide +kernel
theorem dX5_set_26 : decode cX5_set 26 = .ok (.getfield 19, 3) := by decide +kernel
theorem dX5_set_29 : decode cX5_set 29 = .ok (.aload_n 0, 1) := by decide +kernel
theorem dX5_set_30 : decode cX5_set 30 = .ok (.getfield 12, 3) := by decide +kernel
theorem dX5_set_33 : decode cX5_set 33 = .ok (.invokevirtual 49, 3) := by decide +kernel
theorem dX5_set_36 : decode cX5_set 36 = .ok (.aload_n 0, 1) := by decide +kernel
theorem dX5_set_37 : decode cX5_set 37 = .ok (.getfield 12, 3) := by decide +kernel
theorem dX5_set_40 : decode cX5_set 40 = .ok (.iload_n 1, 1) := by decide +kernel
theorem dX5_set_41 : decode cX5_set 41 = .ok (.iload_n 2, 1) := by decide +kernel
theorem dX5_set_42 : decode cX5_set 42 = .ok (.invokevirtual 124, 3) := by decide +kernel
theorem dX5_set_45 : decode cX5_set 45 = .ok (.ireturn, 1) := by decide +kernel
set_option maxRecDepth 20000 in
theorem ggX5_append_X5_checkRange : GoodIn wsX5_append wsX5_checkRange := goodIn_ca (goodIn_r _ [7, 8, 9] (by decide +kernel) (by decide +kernel)) (goodIn_sub (fun _ h => List.mem_cons_of_mem _ (List.mem_append_right _ h)) (by decide +kernel))
set_option maxRecDepth 20000 in
theorem gX5_append_X5_checkRange : GoodIn wsX5_append (va_wsS RX5 34 yX5_checkRange wsX5_checkRange) := goodIn_app (goodIn_of _ (by decide +kernel)) ggX5_append_X5_checkRange
set_option maxRecDepth 20000 in
theorem ggX5_append_X4_isFull : GoodIn wsX5_append wsX4_isFull := goodIn_r _ [14, 15, 16, 24, 25] (by decide +kernel) (by decide +kernel)
set_option maxRecDepth 20000 in
theorem gX5_append_X4_isFull : GoodIn wsX5_append (wsV RX5 127 RX4 yX4_isFull wsX4_isFull) := goodIn_app (goodIn_of _ (by decide +kernel)) ggX5_append_X4_isFull
set_option maxRecDepth 20000 in
theorem ggX5_append_X4_add : GoodIn wsX5_append wsX4_add := goodIn_r _ [20, 15, 16, 24, 25] (by decide +kernel) (by decide +kernel)
set_option maxRecDepth 20000 in
theorem gX5_append_X4_add : GoodIn wsX5_append (wsV RX5 133 RX4 yX4_add wsX4_add) := goodIn_app (goodIn_of _ (by decide +kernel)) ggX5_append_X4_add
theorem dX5_append_0 : decode cX5_append 0 = .ok (.iload_n 1, 1) := by decide +kernel
theorem dX5_append_1 : decode cX5_append 1 = .ok (.bipush 33, 2) := by decide +kernel
theorem dX5_append_3 : decode cX5_append 3 = .ok (.bipush 126, 2) := by decide +kernel
theorem dX5_append_5 : decode cX5_append 5 = .ok (.invokestatic 34, 3) := by decide +kernel
theorem dX5_append_8 : decode cX5_append 8 = .ok (.aload_n 0, 1) := by decide +kernel
theorem dX5_append_9 : decode cX5_append 9 = .ok (.getfield 26, 3) := by decide +kernel
theorem dX5_append_12 : decode cX5_append 12 = .ok (.invokevirtual 127, 3) := by decide +kernel
theorem dX5_append_15 : decode cX5_append 15 = .ok (.ifCond .eq 13, 3) := by decide +kernel
theorem dX5_append_18 : decode cX5_append 18 = .ok (.new 42, 3) := by decide +kernel
theorem dX5_append_21 : decode cX5_append 21 = .ok (.dup, 1) := by decide +kernel
theorem dX5_append_22 : decode cX5_append 22 = .ok (.ldc 131, 2) := by decide +kernel
theorem dX5_append_24 : decode cX5_append 24 = .ok (.invokespecial 46, 3) := by decide +kernel
theorem dX5_append_27 : decode cX5_append 27 = .ok (.athrow, 1) := by decide +kernel
theorem dX5_append_28 : decode cX5_append 28 = .ok (.aload_n 0, 1) := by decide +kernel
theorem dX5_append_29 : decode cX5_append 29 = .ok (.getfield 26, 3) := by decide +kernel
theorem dX5_append_32 : decode cX5_append 32 = .ok (.iload_n 1, 1) := by decide +kernel
theorem dX5_append_33 : decode cX5_append 33 = .ok (.invokevirtual 133, 3) := by decide +kernel
theorem dX5_append_36 : decode cX5_append 36 = .ok (.ireturn, 1) := by decide +kernel
set_option maxRecDepth 20000 in
theorem ggX5_clearBuffer_X4_empty : GoodIn wsX5_clearBuffer wsX4_empty := goodIn_r _ [6, 7, 11, 12] (by decide +kernel) (by decide +kernel)
set_option maxRecDepth 20000 in
theorem gX5_clearBuffer_X4_empty : GoodIn wsX5_clearBuffer (wsV RX5 136 RX4 yX4_empty wsX4_empty) := goodIn_app (goodIn_of _ (by decide +kernel)) ggX5_clearBuffer_X4_empty
theorem dX5_clearBuffer_0 : decode cX5_clearBuffer 0 = .ok (.aload_n 0, 1) := by decide +kernel
theorem dX5_clearBuffer_1 : decode cX5_clearBuffer 1 = .ok (.getfield 26, 3) := by decide +kernel
theorem dX5_clearBuffer_4 : decode cX5_clearBuffer 4 = .ok (.invokevirtual 136, 3) := by decide +kernel
theorem dX5_clearBuffer_7 : decode cX5_clearBuffer 7 = .ok (.ireturn, 1) := by decide +kernel
set_option maxRecDepth 20000 in
theorem ggX5_firstError_X4_errorIndex : GoodIn wsX5_firstError wsX4_errorIndex := goodIn_r _ [6, 7, 8, 9, 10, 5, 11, 12, 13, 14, 15, 16, 17, 18, 19, 20, 21, 22, 23, 24, 25, 26, 27, 31, 32] (by decide +kernel) (by decide +kernel)
set_option maxRecDepth 20000 in
theorem gX5_firstError_X4_errorIndex : GoodIn wsX5_firstError (wsV RX5 139 RX4 yX4_errorIndex wsX4_errorIndex) := goodIn_app (goodIn_of _ (by decide +kernel)) ggX5_firstError_X4_errorIndex
theorem dX5_firstError_0 : decode cX5_firstError 0 = .ok (.aload_n 0, 1) := by decide +kernel
theorem dX5_firstError_1 : decode cX5_firstError 1 = .ok (.getfield 26, 3) := by decide +kernel
theorem dX5_firstError_4 : decode cX5_firstError 4 = .ok (.invokevirtual 139, 3) := by decide +kernel
theorem dX5_firstError_7 : decode cX5_firstError 7 = .ok (.ireturn, 1) := by decide +kernel
set_option maxRecDepth 20000 in
theorem ggX5_run_X4_isComplete : GoodIn wsX5_run wsX4_isComplete := goodIn_r _ [10, 11, 12, 13, 14, 9, 15, 16, 17, 18, 19, 20, 21, 22, 23, 24, 25, 26, 27, 28, 29, 30, 31, 164, 165] (by decide +kernel) (by decide +kernel)
set_option maxRecDepth 20000 in
theorem gX5_run_X4_isComplete : GoodIn wsX5_run (wsV RX5 142 RX4 yX4_isComplete wsX4_isComplete) := goodIn_app (goodIn_of _ (by decide +kernel)) ggX5_run_X4_isComplete
set_option maxRecDepth 20000 in
theorem ggX5_run_X1_keep : GoodIn wsX5_run wsX1_keep := goodIn_r _ [36, 37, 38, 39, 40, 41, 35, 42, 43, 44, 45, 46, 47, 48, 49, 50, 51, 52, 53, 54, 55, 56, 57, 58, 59, 60, 61, 62, 63, 64, 65, 66, 67, 68, 69, 70, 166, 167, 168, 169, 170, 171, 172, 173, 174, 175, 176, 177, 178, 179, 180, 181, 182, 183, 184, 185] (by decide +kernel) (by decide +kernel)
set_option maxRecDepth 20000 in
theorem gX5_run_X1_keep : GoodIn wsX5_run (wsV RX5 49 RX1 yX1_keep wsX1_keep) := goodIn_app (goodIn_of _ (by decide +kernel)) ggX5_run_X1_keep
set_option maxRecDepth 20000 in
theorem ggX5_run_X5_carryOutText : GoodIn wsX5_run wsX5_carryOutText := goodIn_r _ [75, 3, 5, 76, 13, 14, 9, 15, 11, 16, 77, 78, 79, 80, 12, 23, 24, 25, 81, 82, 83, 84, 85, 86, 87, 88, 89, 90, 91, 92, 93, 50, 94, 52, 53, 95, 96, 97, 98, 99, 100, 101, 102, 103, 104, 105, 106, 67, 107, 69, 108, 70, 109, 110, 111, 112, 113, 114, 115, 116, 117, 118, 119, 120, 121, 122, 123, 124, 125, 126, 127, 128, 129, 130, 131, 132, 133, 61, 134, 135, 136, 137, 58, 59, 60, 138, 139, 140, 141, 142, 143, 144, 145, 146, 147, 148, 149, 55, 150, 151, 152, 153, 154, 155, 156, 161, 162, 163, 164, 165, 169, 170, 171, 172, 173, 174, 175, 176, 177, 178, 179, 180, 181, 182, 183, 184, 185] (by decide +kernel) (by decide +kernel)
set_option maxRecDepth 20000 in
theorem gX5_run_X5_carryOutText : GoodIn wsX5_run (wsV RX5 150 RX5 yX5_carryOutText wsX5_carryOutText) := goodIn_app (goodIn_of _ (by decide +kernel)) ggX5_run_X5_carryOutText
set_option maxRecDepth 20000 in
theorem ggX5_run_X4_empty : GoodIn wsX5_run wsX4_empty := goodIn_r _ [160, 11, 164, 165] (by decide +kernel) (by decide +kernel)
set_option maxRecDepth 20000 in
theorem gX5_run_X4_empty : GoodIn wsX5_run (wsV RX5 136 RX4 yX4_empty wsX4_empty) := goodIn_app (goodIn_of _ (by decide +kernel)) ggX5_run_X4_empty
theorem dX5_run_0 : decode cX5_run 0 = .ok (.aload_n 0, 1) := by decide +kernel
theorem dX5_run_1 : decode cX5_run 1 = .ok (.getfield 26, 3) := by decide +kernel
theorem dX5_run_4 : decode cX5_run 4 = .ok (.invokevirtual 142, 3) := by decide +kernel
theorem dX5_run_7 : decode cX5_run 7 = .ok (.ifCond .ne 13, 3) := by decide +kernel
theorem dX5_run_10 : decode cX5_run 10 = .ok (.new 145, 3) := by decide +kernel
theorem dX5_run_13 : decode cX5_run 13 = .ok (.dup, 1) := by decide +kernel
theorem dX5_run_14 : decode cX5_run 14 = .ok (.ldc 147, 2) := by decide +kernel
theorem dX5_run_16 : decode cX5_run 16 = .ok (.invokespecial 149, 3) := by decide +kernel
theorem dX5_run_19 : decode cX5_run 19 = .ok (.athrow, 1) := by decide +kernel
theorem dX5_run_20 : decode cX5_run 20 = .ok (.aload_n 0, 1) := by decide +kernel
theorem dX5_run_21 : decode cX5_run 21 = .ok (.getfield 19, 3) := by decide +kernel
theorem dX5_run_24 : decode cX5_run 24 = .ok (.aload_n 0, 1) := by decide +kernel
theorem dX5_run_25 : decode cX5_run 25 = .ok (.getfield 12, 3) := by decide +kernel
theorem dX5_run_28 : decode cX5_run 28 = .ok (.invokevirtual 49, 3) := by decide +kernel
theorem dX5_run_31 : decode cX5_run 31 = .ok (.aload_n 0, 1) := by decide +kernel
theorem dX5_run_32 : decode cX5_run 32 = .ok (.invokevirtual 150, 3) := by decide +kernel
theorem dX5_run_35 : decode cX5_run 35 = .ok (.istore_n 1, 1) := by decide +kernel
theorem dX5_run_36 : decode cX5_run 36 = .ok (.aload_n 0, 1) := by decide +kernel
theorem dX5_run_37 : decode cX5_run 37 = .ok (.getfield 26, 3) := by decide +kernel
theorem dX5_run_40 : decode cX5_run 40 = .ok (.invokevirtual 136, 3) := by decide +kernel
theorem dX5_run_43 : decode cX5_run 43 = .ok (.pop, 1) := by decide +kernel
theorem dX5_run_44 : decode cX5_run 44 = .ok (.iload_n 1, 1) := by decide +kernel
theorem dX5_run_45 : decode cX5_run 45 = .ok (.ireturn, 1) := by decide +kernel
set_option maxRecDepth 20000 in
theorem ggX5_undo_X1_restore : GoodIn wsX5_undo wsX1_restore := goodIn_r _ [9, 10, 11, 12, 13, 14, 8, 15, 16, 17, 18, 19, 20, 21, 22, 23, 24, 25, 26, 27, 28, 29, 30, 31, 32, 33, 34, 35, 36, 37, 38, 39, 40, 41, 42, 43, 47, 48, 49, 50, 51, 52, 53, 54, 55, 56, 57, 58, 59, 60, 61, 62, 63, 64, 65, 66] (by decide +kernel) (by decide +kernel)
set_option maxRecDepth 20000 in
theorem gX5_undo_X1_restore : GoodIn wsX5_undo (wsV RX5 158 RX1 yX1_restore wsX1_restore) := goodIn_app (goodIn_of _ (by decide +kernel)) ggX5_undo_X1_restore
theorem dX5_undo_0 : decode cX5_undo 0 = .ok (.aload_n 0, 1) := by decide +kernel
theorem dX5_undo_1 : decode cX5_undo 1 = .ok (.getfield 19, 3) := by decide +kernel
theorem dX5_undo_4 : decode cX5_undo 4 = .ok (.getfield 153, 3) := by decide +kernel
theorem dX5_undo_7 : decode cX5_undo 7 = .ok (.ifCond .ne 13, 3) := by decide +kernel
theorem dX5_undo_10 : decode cX5_undo 10 = .ok (.new 42, 3) := by decide +kernel
theorem dX5_undo_13 : decode cX5_undo 13 = .ok (.dup, 1) := by decide +kernel
theorem dX5_undo_14 : decode cX5_undo 14 = .ok (.ldc 156, 2) := by decide +kernel
theorem dX5_undo_16 : decode cX5_undo 16 = .ok (.invokespecial 46, 3) := by decide +kernel
theorem dX5_undo_19 : decode cX5_undo 19 = .ok (.athrow, 1) := by decide +kernel
theorem dX5_undo_20 : decode cX5_undo 20 = .ok (.aload_n 0, 1) := by decide +kernel
theorem dX5_undo_21 : decode cX5_undo 21 = .ok (.getfield 19, 3) := by decide +kernel
theorem dX5_undo_24 : decode cX5_undo 24 = .ok (.aload_n 0, 1) := by decide +kernel
theorem dX5_undo_25 : decode cX5_undo 25 = .ok (.getfield 12, 3) := by decide +kernel
theorem dX5_undo_28 : decode cX5_undo 28 = .ok (.invokevirtual 158, 3) := by decide +kernel
theorem dX5_undo_31 : decode cX5_undo 31 = .ok (.ireturn, 1) := by decide +kernel
set_option maxRecDepth 20000 in
theorem ggX5_mandate_X5_checkMandate : GoodIn wsX5_mandate wsX5_checkMandate := goodIn_ca (goodIn_r _ [6, 7, 8, 1, 9, 10, 11, 12, 13, 14, 80, 81, 82, 83, 84, 85, 86, 87, 88, 89, 90, 91, 92, 93, 94, 95, 96, 97, 98, 99] (by decide +kernel) (by decide +kernel)) (goodIn_sub (fun _ h => List.mem_cons_of_mem _ (List.mem_append_left _ (List.mem_append_right _ h))) (by decide +kernel))
set_option maxRecDepth 20000 in
theorem gX5_mandate_X5_checkMandate : GoodIn wsX5_mandate (wsV RX5 30 RX5 yX5_checkMandate wsX5_checkMandate) := goodIn_app (goodIn_of _ (by decide +kernel)) ggX5_mandate_X5_checkMandate
set_option maxRecDepth 20000 in
theorem ggX5_mandate_X5_checkRange : GoodIn wsX5_mandate wsX5_checkRange := goodIn_ca (goodIn_r _ [17, 18, 19] (by decide +kernel) (by decide +kernel)) (goodIn_sub (fun _ h => List.mem_cons_of_mem _ (List.mem_append_right _ h)) (by decide +kernel))
set_option maxRecDepth 20000 in
theorem gX5_mandate_X5_checkRange : GoodIn wsX5_mandate (va_wsS RX5 34 yX5_checkRange wsX5_checkRange) := goodIn_app (goodIn_of _ (by decide +kernel)) ggX5_mandate_X5_checkRange
set_option maxRecDepth 20000 in
theorem ggX5_mandate_X0_mandateProperty : GoodIn wsX5_mandate wsX0_mandateProperty := goodIn_r _ [24, 25, 26, 27, 28, 12, 29, 14, 30, 31, 32, 33, 34, 35, 36, 37, 38, 39, 40, 41, 42, 10, 11, 13, 43, 44, 45, 46, 47, 48, 49, 50, 51, 52, 53, 54, 55, 56, 57, 58, 59, 60, 61, 62, 63, 64, 65, 66, 67, 68, 69, 70, 71, 72, 73, 74, 75, 76, 23, 77, 78, 79, 83, 84, 85, 86, 87, 88, 89, 90, 91, 92, 93, 94, 95, 96, 97, 98, 99] (by decide +kernel) (by decide +kernel)
set_option maxRecDepth 20000 in
theorem gX5_mandate_X0_mandateProperty : GoodIn wsX5_mandate (wsV RX5 162 RX0 yX0_mandateProperty wsX0_mandateProperty) := goodIn_app (goodIn_of _ (by decide +kernel)) ggX5_mandate_X0_mandateProperty
theorem dX5_mandate_0 : decode cX5_mandate 0 = .ok (.aload_n 0, 1) := by decide +kernel
theorem dX5_mandate_1 : decode cX5_mandate 1 = .ok (.iload_n 1, 1) := by decide +kernel
theorem dX5_mandate_2 : decode cX5_mandate 2 = .ok (.invokevirtual 30, 3) := by decide +kernel
theorem dX5_mandate_5 : decode cX5_mandate 5 = .ok (.iload_n 2, 1) := by decide +kernel
theorem dX5_mandate_6 : decode cX5_mandate 6 = .ok (.iconst 0, 1) := by decide +kernel
theorem dX5_mandate_7 : decode cX5_mandate 7 = .ok (.bipush 11, 2) := by decide +kernel
theorem dX5_mandate_9 : decode cX5_mandate 9 = .ok (.invokestatic 34, 3) := by decide +kernel
theorem dX5_mandate_12 : decode cX5_mandate 12 = .ok (.aload_n 0, 1) := by decide +kernel
theorem dX5_mandate_13 : decode cX5_mandate 13 = .ok (.getfield 12, 3) := by decide +kernel
theorem dX5_mandate_16 : decode cX5_mandate 16 = .ok (.iload_n 1, 1) := by decide +kernel
theorem dX5_mandate_17 : decode cX5_mandate 17 = .ok (.iload_n 2, 1) := by decide +kernel
theorem dX5_mandate_18 : decode cX5_mandate 18 = .ok (.invokevirtual 162, 3) := by decide +kernel
theorem dX5_mandate_21 : decode cX5_mandate 21 = .ok (.ireturn, 1) := by decide +kernel
set_option maxRecDepth 20000 in
theorem ggX5_request_X5_checkRequest : GoodIn wsX5_request wsX5_checkRequest := goodIn_ca (goodIn_r _ [6, 7, 8, 1, 40, 41, 42, 43, 44, 45, 46, 47, 48, 49, 50, 51, 52, 53, 54, 55, 56, 57, 58] (by decide +kernel) (by decide +kernel)) (goodIn_sub (fun _ h => List.mem_cons_of_mem _ (List.mem_append_left _ (List.mem_append_right _ h))) (by decide +kernel))
set_option maxRecDepth 20000 in
theorem gX5_request_X5_checkRequest : GoodIn wsX5_request (wsV RX5 86 RX5 yX5_checkRequest wsX5_checkRequest) := goodIn_app (goodIn_of _ (by decide +kernel)) ggX5_request_X5_checkRequest
set_option maxRecDepth 20000 in
theorem ggX5_request_X5_checkRange : GoodIn wsX5_request wsX5_checkRange := goodIn_ca (goodIn_r _ [11, 12, 13] (by decide +kernel) (by decide +kernel)) (goodIn_sub (fun _ h => List.mem_cons_of_mem _ (List.mem_append_right _ h)) (by decide +kernel))
set_option maxRecDepth 20000 in
theorem gX5_request_X5_checkRange : GoodIn wsX5_request (va_wsS RX5 34 yX5_checkRange wsX5_checkRange) := goodIn_app (goodIn_of _ (by decide +kernel)) ggX5_request_X5_checkRange
set_option maxRecDepth 20000 in
theorem ggX5_request_X0_requestProperty : GoodIn wsX5_request wsX0_requestProperty := goodIn_r _ [18, 19, 20, 21, 22, 23, 24, 25, 26, 27, 28, 29, 30, 17, 31, 32, 33, 34, 35, 36, 37, 38, 39, 43, 44, 45, 46, 47, 48, 49, 50, 51, 52, 53, 54, 55, 56, 57, 58, 59] (by decide +kernel) (by decide +kernel)
set_option maxRecDepth 20000 in
theorem gX5_request_X0_requestProperty : GoodIn wsX5_request (wsV RX5 165 RX0 yX0_requestProperty wsX0_requestProperty) := goodIn_app (goodIn_of _ (by decide +kernel)) ggX5_request_X0_requestProperty
theorem dX5_request_0 : decode cX5_request 0 = .ok (.aload_n 0, 1) := by decide +kernel
theorem dX5_request_1 : decode cX5_request 1 = .ok (.iload_n 1, 1) := by decide +kernel
theorem dX5_request_2 : decode cX5_request 2 = .ok (.invokevirtual 86, 3) := by decide +kernel
theorem dX5_request_5 : decode cX5_request 5 = .ok (.iload_n 2, 1) := by decide +kernel
theorem dX5_request_6 : decode cX5_request 6 = .ok (.iconst 0, 1) := by decide +kernel
theorem dX5_request_7 : decode cX5_request 7 = .ok (.bipush 6, 2) := by decide +kernel
theorem dX5_request_9 : decode cX5_request 9 = .ok (.invokestatic 34, 3) := by decide +kernel
theorem dX5_request_12 : decode cX5_request 12 = .ok (.aload_n 0, 1) := by decide +kernel
theorem dX5_request_13 : decode cX5_request 13 = .ok (.getfield 12, 3) := by decide +kernel
theorem dX5_request_16 : decode cX5_request 16 = .ok (.iload_n 1, 1) := by decide +kernel
theorem dX5_request_17 : decode cX5_request 17 = .ok (.iload_n 2, 1) := by decide +kernel
theorem dX5_request_18 : decode cX5_request 18 = .ok (.invokevirtual 165, 3) := by decide +kernel
theorem dX5_request_21 : decode cX5_request 21 = .ok (.ireturn, 1) := by decide +kernel
set_option maxRecDepth 20000 in
theorem ggX5_person_X5_checkPerson : GoodIn wsX5_person wsX5_checkPerson := goodIn_ca (goodIn_r _ [5, 6, 7] (by decide +kernel) (by decide +kernel)) (goodIn_sub (fun _ h => List.mem_cons_of_mem _ (List.mem_append_left _ (List.mem_append_right _ h))) (by decide +kernel))
set_option maxRecDepth 20000 in
theorem gX5_person_X5_checkPerson : GoodIn wsX5_person (va_wsS RX5 89 yX5_checkPerson wsX5_checkPerson) := goodIn_app (goodIn_of _ (by decide +kernel)) ggX5_person_X5_checkPerson
set_option maxRecDepth 20000 in
theorem ggX5_person_X5_checkRange : GoodIn wsX5_person wsX5_checkRange := goodIn_ca (goodIn_r _ [10, 11, 12] (by decide +kernel) (by decide +kernel)) (goodIn_sub (fun _ h => List.mem_cons_of_mem _ (List.mem_append_right _ h)) (by decide +kernel))
set_option maxRecDepth 20000 in
theorem gX5_person_X5_checkRange : GoodIn wsX5_person (va_wsS RX5 34 yX5_checkRange wsX5_checkRange) := goodIn_app (goodIn_of _ (by decide +kernel)) ggX5_person_X5_checkRange
set_option maxRecDepth 20000 in
theorem ggX5_person_X0_personNumber : GoodIn wsX5_person wsX0_personNumber := goodIn_r _ [17, 18, 19, 20, 21, 22, 23, 24, 25, 26, 27, 28, 29, 30, 31, 32, 33, 34, 35, 36, 37, 38, 39, 40, 41, 42, 43, 44, 45, 46, 47, 48, 16, 49, 50, 51, 52, 53, 54, 55, 56, 57, 58, 59, 60, 61, 62, 66, 67, 68, 69, 70, 71, 72, 73, 74, 75, 76, 77, 78, 79, 80, 81, 82] (by decide +kernel) (by decide +kernel)
set_option maxRecDepth 20000 in
theorem gX5_person_X0_personNumber : GoodIn wsX5_person (wsV RX5 168 RX0 yX0_personNumber wsX0_personNumber) := goodIn_app (goodIn_of _ (by decide +kernel)) ggX5_person_X0_personNumber
theorem dX5_person_0 : decode cX5_person 0 = .ok (.iload_n 1, 1) := by decide +kernel
theorem dX5_person_1 : decode cX5_person 1 = .ok (.invokestatic 89, 3) := by decide +kernel
theorem dX5_person_4 : decode cX5_person 4 = .ok (.iload_n 2, 1) := by decide +kernel
theorem dX5_person_5 : decode cX5_person 5 = .ok (.iconst 0, 1) := by decide +kernel
theorem dX5_person_6 : decode cX5_person 6 = .ok (.iconst 3, 1) := by decide +kernel
theorem dX5_person_7 : decode cX5_person 7 = .ok (.invokestatic 34, 3) := by decide +kernel
theorem dX5_person_10 : decode cX5_person 10 = .ok (.aload_n 0, 1) := by decide +kernel
theorem dX5_person_11 : decode cX5_person 11 = .ok (.getfield 12, 3) := by decide +kernel
theorem dX5_person_14 : decode cX5_person 14 = .ok (.iload_n 1, 1) := by decide +kernel
theorem dX5_person_15 : decode cX5_person 15 = .ok (.iload_n 2, 1) := by decide +kernel
theorem dX5_person_16 : decode cX5_person 16 = .ok (.invokevirtual 168, 3) := by decide +kernel
theorem dX5_person_19 : decode cX5_person 19 = .ok (.ireturn, 1) := by decide +kernel
set_option maxRecDepth 20000 in
theorem ggX5_count_X5_checkRange : GoodIn wsX5_count wsX5_checkRange := goodIn_ca (goodIn_r _ [6, 7, 8] (by decide +kernel) (by decide +kernel)) (goodIn_sub (fun _ h => List.mem_cons_of_mem _ (List.mem_append_right _ h)) (by decide +kernel))
set_option maxRecDepth 20000 in
theorem gX5_count_X5_checkRange : GoodIn wsX5_count (va_wsS RX5 34 yX5_checkRange wsX5_checkRange) := goodIn_app (goodIn_of _ (by decide +kernel)) ggX5_count_X5_checkRange
set_option maxRecDepth 20000 in
theorem ggX5_count_X0_number : GoodIn wsX5_count wsX0_number := goodIn_r _ [13, 14, 15, 16, 17, 18, 19, 20, 21, 22, 23, 24, 25, 26, 27, 28, 29, 30, 31, 32, 33, 34, 35, 36, 37, 38, 39, 40, 41, 42, 43, 44, 45, 52, 53, 54, 55, 56, 57, 58, 59, 60, 61, 62, 63, 64, 65, 66, 67, 68] (by decide +kernel) (by decide +kernel)
set_option maxRecDepth 20000 in
theorem gX5_count_X0_number : GoodIn wsX5_count (wsV RX5 171 RX0 yX0_number wsX0_number) := goodIn_app (goodIn_of _ (by decide +kernel)) ggX5_count_X0_number
theorem dX5_count_0 : decode cX5_count 0 = .ok (.iload_n 1, 1) := by decide +kernel
theorem dX5_count_1 : decode cX5_count 1 = .ok (.iconst 0, 1) := by decide +kernel
theorem dX5_count_2 : decode cX5_count 2 = .ok (.bipush 11, 2) := by decide +kernel
theorem dX5_count_4 : decode cX5_count 4 = .ok (.invokestatic 34, 3) := by decide +kernel
theorem dX5_count_7 : decode cX5_count 7 = .ok (.iload_n 1, 1) := by decide +kernel
theorem dX5_count_8 : decode cX5_count 8 = .ok (.bipush 11, 2) := by decide +kernel
theorem dX5_count_10 : decode cX5_count 10 = .ok (.if_icmp .ne 13, 3) := by decide +kernel
theorem dX5_count_13 : decode cX5_count 13 = .ok (.aload_n 0, 1) := by decide +kernel
theorem dX5_count_14 : decode cX5_count 14 = .ok (.getfield 19, 3) := by decide +kernel
theorem dX5_count_17 : decode cX5_count 17 = .ok (.getfield 153, 3) := by decide +kernel
theorem dX5_count_20 : decode cX5_count 20 = .ok (.goto 11, 3) := by decide +kernel
theorem dX5_count_23 : decode cX5_count 23 = .ok (.aload_n 0, 1) := by decide +kernel
theorem dX5_count_24 : decode cX5_count 24 = .ok (.getfield 12, 3) := by decide +kernel
theorem dX5_count_27 : decode cX5_count 27 = .ok (.iload_n 1, 1) := by decide +kernel
theorem dX5_count_28 : decode cX5_count 28 = .ok (.invokevirtual 171, 3) := by decide +kernel
theorem dX5_count_31 : decode cX5_count 31 = .ok (.ireturn, 1) := by decide +kernel
set_option maxRecDepth 20000 in
theorem ggX5_setting_X5_checkSetting : GoodIn wsX5_setting wsX5_checkSetting := goodIn_ca (goodIn_r _ [5, 6, 7] (by decide +kernel) (by decide +kernel)) (goodIn_sub (fun _ h => List.mem_cons_of_mem _ (List.mem_append_right _ h)) (by decide +kernel))
set_option maxRecDepth 20000 in
theorem gX5_setting_X5_checkSetting : GoodIn wsX5_setting (va_wsS RX5 121 yX5_checkSetting wsX5_checkSetting) := goodIn_app (goodIn_of _ (by decide +kernel)) ggX5_setting_X5_checkSetting
set_option maxRecDepth 20000 in
theorem ggX5_setting_X0_settingValue : GoodIn wsX5_setting wsX0_settingValue := goodIn_r _ [12, 13, 14, 18, 19, 20, 21, 22, 23, 24, 25, 26, 27, 28, 29] (by decide +kernel) (by decide +kernel)
set_option maxRecDepth 20000 in
theorem gX5_setting_X0_settingValue : GoodIn wsX5_setting (wsV RX5 174 RX0 yX0_settingValue wsX0_settingValue) := goodIn_app (goodIn_of _ (by decide +kernel)) ggX5_setting_X0_settingValue
theorem dX5_setting_0 : decode cX5_setting 0 = .ok (.iload_n 1, 1) := by decide +kernel
theorem dX5_setting_1 : decode cX5_setting 1 = .ok (.invokestatic 121, 3) := by decide +kernel
theorem dX5_setting_4 : decode cX5_setting 4 = .ok (.aload_n 0, 1) := by decide +kernel
theorem dX5_setting_5 : decode cX5_setting 5 = .ok (.getfield 12, 3) := by decide +kernel
theorem dX5_setting_8 : decode cX5_setting 8 = .ok (.iload_n 1, 1) := by decide +kernel
theorem dX5_setting_9 : decode cX5_setting 9 = .ok (.invokevirtual 174, 3) := by decide +kernel
theorem dX5_setting_12 : decode cX5_setting 12 = .ok (.ireturn, 1) := by decide +kernel
set_option maxRecDepth 20000 in
theorem ggX5_whyNot_X5_checkMandate : GoodIn wsX5_whyNot wsX5_checkMandate := goodIn_ca (goodIn_r _ [6, 7, 8, 1, 9, 10, 11, 12, 13, 14, 45, 46, 47, 48, 49, 50, 51, 52, 53, 54, 55, 56, 57, 58, 59, 60, 61, 62, 63, 64] (by decide +kernel) (by decide +kernel)) (goodIn_sub (fun _ h => List.mem_cons_of_mem _ (List.mem_append_left _ (List.mem_append_right _ h))) (by decide +kernel))
set_option maxRecDepth 20000 in
theorem gX5_whyNot_X5_checkMandate : GoodIn wsX5_whyNot (wsV RX5 30 RX5 yX5_checkMandate wsX5_checkMandate) := goodIn_app (goodIn_of _ (by decide +kernel)) ggX5_whyNot_X5_checkMandate
set_option maxRecDepth 20000 in
theorem ggX5_whyNot_X5_checkRange : GoodIn wsX5_whyNot wsX5_checkRange := goodIn_ca (goodIn_r _ [17, 18, 19] (by decide +kernel) (by decide +kernel)) (goodIn_sub (fun _ h => List.mem_cons_of_mem _ (List.mem_append_right _ h)) (by decide +kernel))
set_option maxRecDepth 20000 in
theorem gX5_whyNot_X5_checkRange : GoodIn wsX5_whyNot (va_wsS RX5 34 yX5_checkRange wsX5_checkRange) := goodIn_app (goodIn_of _ (by decide +kernel)) ggX5_whyNot_X5_checkRange
set_option maxRecDepth 20000 in
theorem ggX5_whyNot_X2_refusal : GoodIn wsX5_whyNot wsX2_refusal := goodIn_r _ [23, 14, 24, 25, 26, 12, 27, 28, 10, 11, 13, 29, 30, 31, 32, 33, 34, 35, 36, 37, 38, 39, 40, 41, 42, 43, 44, 60, 61, 62, 63, 64] (by decide +kernel) (by decide +kernel)
set_option maxRecDepth 20000 in
theorem gX5_whyNot_X2_refusal : GoodIn wsX5_whyNot (wsV RX5 177 RX2 yX2_refusal wsX2_refusal) := goodIn_app (goodIn_of _ (by decide +kernel)) ggX5_whyNot_X2_refusal
theorem dX5_whyNot_0 : decode cX5_whyNot 0 = .ok (.aload_n 0, 1) := by decide +kernel
theorem dX5_whyNot_1 : decode cX5_whyNot 1 = .ok (.iload_n 1, 1) := by decide +kernel
theorem dX5_whyNot_2 : decode cX5_whyNot 2 = .ok (.invokevirtual 30, 3) := by decide +kernel
theorem dX5_whyNot_5 : decode cX5_whyNot 5 = .ok (.iload_n 2, 1) := by decide +kernel
theorem dX5_whyNot_6 : decode cX5_whyNot 6 = .ok (.iconst 1, 1) := by decide +kernel
theorem dX5_whyNot_7 : decode cX5_whyNot 7 = .ok (.sipush 9999, 3) := by decide +kernel
theorem dX5_whyNot_10 : decode cX5_whyNot 10 = .ok (.invokestatic 34, 3) := by decide +kernel
theorem dX5_whyNot_13 : decode cX5_whyNot 13 = .ok (.aload_n 0, 1) := by decide +kernel
theorem dX5_whyNot_14 : decode cX5_whyNot 14 = .ok (.getfield 12, 3) := by decide +kernel
theorem dX5_whyNot_17 : decode cX5_whyNot 17 = .ok (.getfield 53, 3) := by decide +kernel
theorem dX5_whyNot_20 : decode cX5_whyNot 20 = .ok (.iload_n 1, 1) := by decide +kernel
theorem dX5_whyNot_21 : decode cX5_whyNot 21 = .ok (.iload_n 2, 1) := by decide +kernel
theorem dX5_whyNot_22 : decode cX5_whyNot 22 = .ok (.invokevirtual 177, 3) := by decide +kernel
theorem dX5_whyNot_25 : decode cX5_whyNot 25 = .ok (.ireturn, 1) := by decide +kernel
set_option maxRecDepth 20000 in
theorem ggX5_room_X5_checkMandate : GoodIn wsX5_room wsX5_checkMandate := goodIn_ca (goodIn_r _ [6, 7, 8, 1, 9, 10, 11, 12, 13, 14, 51, 52, 53, 54, 55, 56, 57, 58, 59, 60, 61, 62, 63, 64, 65, 66, 67, 68, 69, 70] (by decide +kernel) (by decide +kernel)) (goodIn_sub (fun _ h => List.mem_cons_of_mem _ (List.mem_append_right _ h)) (by decide +kernel))
set_option maxRecDepth 20000 in
theorem gX5_room_X5_checkMandate : GoodIn wsX5_room (wsV RX5 30 RX5 yX5_checkMandate wsX5_checkMandate) := goodIn_app (goodIn_of _ (by decide +kernel)) ggX5_room_X5_checkMandate
set_option maxRecDepth 20000 in
theorem ggX5_room_X2_greatestAmount : GoodIn wsX5_room wsX2_greatestAmount := goodIn_r _ [18, 14, 19, 20, 21, 22, 23, 24, 25, 26, 27, 28, 12, 29, 30, 10, 11, 13, 31, 32, 33, 34, 35, 36, 37, 38, 39, 40, 41, 42, 43, 44, 45, 46, 47, 48, 49, 50, 66, 67, 68, 69, 70] (by decide +kernel) (by decide +kernel)
set_option maxRecDepth 20000 in
theorem gX5_room_X2_greatestAmount : GoodIn wsX5_room (wsV RX5 180 RX2 yX2_greatestAmount wsX2_greatestAmount) := goodIn_app (goodIn_of _ (by decide +kernel)) ggX5_room_X2_greatestAmount
theorem dX5_room_0 : decode cX5_room 0 = .ok (.aload_n 0, 1) := by decide +kernel
theorem dX5_room_1 : decode cX5_room 1 = .ok (.iload_n 1, 1) := by decide +kernel
theorem dX5_room_2 : decode cX5_room 2 = .ok (.invokevirtual 30, 3) := by decide +kernel
theorem dX5_room_5 : decode cX5_room 5 = .ok (.aload_n 0, 1) := by decide +kernel
theorem dX5_room_6 : decode cX5_room 6 = .ok (.getfield 12, 3) := by decide +kernel
theorem dX5_room_9 : decode cX5_room 9 = .ok (.getfield 53, 3) := by decide +kernel
theorem dX5_room_12 : decode cX5_room 12 = .ok (.iload_n 1, 1) := by decide +kernel
theorem dX5_room_13 : decode cX5_room 13 = .ok (.iload_n 2, 1) := by decide +kernel
theorem dX5_room_14 : decode cX5_room 14 = .ok (.invokevirtual 180, 3) := by decide +kernel
theorem dX5_room_17 : decode cX5_room 17 = .ok (.ireturn, 1) := by decide +kernel
set_option maxRecDepth 20000 in
theorem ggX5_under_X5_checkMandate : GoodIn wsX5_under wsX5_checkMandate := goodIn_ca (goodIn_r _ [6, 7, 8, 1, 9, 10, 11, 12, 13, 14, 35, 36, 37, 38, 39, 40, 41, 42, 43, 44, 45, 46, 47, 48, 49, 50, 51, 52, 53, 54] (by decide +kernel) (by decide +kernel)) (goodIn_sub (fun _ h => List.mem_cons_of_mem _ (List.mem_append_right _ h)) (by decide +kernel))
set_option maxRecDepth 20000 in
theorem gX5_under_X5_checkMandate : GoodIn wsX5_under (wsV RX5 30 RX5 yX5_checkMandate wsX5_checkMandate) := goodIn_app (goodIn_of _ (by decide +kernel)) ggX5_under_X5_checkMandate
set_option maxRecDepth 20000 in
theorem ggX5_under_X2_wouldLapse : GoodIn wsX5_under wsX2_wouldLapse := goodIn_r _ [18, 14, 19, 20, 21, 12, 22, 23, 10, 11, 13, 24, 25, 26, 27, 28, 29, 30, 31, 32, 33, 34, 50, 51, 52, 53, 54] (by decide +kernel) (by decide +kernel)
set_option maxRecDepth 20000 in
theorem gX5_under_X2_wouldLapse : GoodIn wsX5_under (wsV RX5 184 RX2 yX2_wouldLapse wsX2_wouldLapse) := goodIn_app (goodIn_of _ (by decide +kernel)) ggX5_under_X2_wouldLapse
theorem dX5_under_0 : decode cX5_under 0 = .ok (.aload_n 0, 1) := by decide +kernel
theorem dX5_under_1 : decode cX5_under 1 = .ok (.iload_n 1, 1) := by decide +kernel
theorem dX5_under_2 : decode cX5_under 2 = .ok (.invokevirtual 30, 3) := by decide +kernel
theorem dX5_under_5 : decode cX5_under 5 = .ok (.aload_n 0, 1) := by decide +kernel
theorem dX5_under_6 : decode cX5_under 6 = .ok (.getfield 12, 3) := by decide +kernel
theorem dX5_under_9 : decode cX5_under 9 = .ok (.getfield 53, 3) := by decide +kernel
theorem dX5_under_12 : decode cX5_under 12 = .ok (.iload_n 1, 1) := by decide +kernel
theorem dX5_under_13 : decode cX5_under 13 = .ok (.invokevirtual 184, 3) := by decide +kernel
theorem dX5_under_16 : decode cX5_under 16 = .ok (.ireturn, 1) := by decide +kernel
set_option maxRecDepth 20000 in
theorem ggX5_narrowest_X5_checkMandate : GoodIn wsX5_narrowest wsX5_checkMandate := goodIn_ca (goodIn_r _ [6, 7, 8, 1, 9, 10, 11, 12, 13, 14, 31, 32, 33, 34, 35, 36, 37, 38, 39, 40, 41, 42, 43, 44, 45, 46, 47, 48, 49, 50] (by decide +kernel) (by decide +kernel)) (goodIn_sub (fun _ h => List.mem_cons_of_mem _ (List.mem_append_right _ h)) (by decide +kernel))
set_option maxRecDepth 20000 in
theorem gX5_narrowest_X5_checkMandate : GoodIn wsX5_narrowest (wsV RX5 30 RX5 yX5_checkMandate wsX5_checkMandate) := goodIn_app (goodIn_of _ (by decide +kernel)) ggX5_narrowest_X5_checkMandate
set_option maxRecDepth 20000 in
theorem ggX5_narrowest_X2_narrowestOfChain : GoodIn wsX5_narrowest wsX2_narrowestOfChain := goodIn_r _ [18, 14, 19, 20, 21, 12, 22, 23, 24, 25, 26, 27, 28, 29, 30, 46, 47, 48, 49, 50] (by decide +kernel) (by decide +kernel)
set_option maxRecDepth 20000 in
theorem gX5_narrowest_X2_narrowestOfChain : GoodIn wsX5_narrowest (wsV RX5 187 RX2 yX2_narrowestOfChain wsX2_narrowestOfChain) := goodIn_app (goodIn_of _ (by decide +kernel)) ggX5_narrowest_X2_narrowestOfChain
theorem dX5_narrowest_0 : decode cX5_narrowest 0 = .ok (.aload_n 0, 1) := by decide +kernel
theorem dX5_narrowest_1 : decode cX5_narrowest 1 = .ok (.iload_n 1, 1) := by decide +kernel
theorem dX5_narrowest_2 : decode cX5_narrowest 2 = .ok (.invokevirtual 30, 3) := by decide +kernel
theorem dX5_narrowest_5 : decode cX5_narrowest 5 = .ok (.aload_n 0, 1) := by decide +kernel
theorem dX5_narrowest_6 : decode cX5_narrowest 6 = .ok (.getfield 12, 3) := by decide +kernel
theorem dX5_narrowest_9 : decode cX5_narrowest 9 = .ok (.getfield 53, 3) := by decide +kernel
theorem dX5_narrowest_12 : decode cX5_narrowest 12 = .ok (.iload_n 1, 1) := by decide +kernel
theorem dX5_narrowest_13 : decode cX5_narrowest 13 = .ok (.invokevirtual 187, 3) := by decide +kernel
theorem dX5_narrowest_16 : decode cX5_narrowest 16 = .ok (.ireturn, 1) := by decide +kernel
set_option maxRecDepth 20000 in
theorem ggX5_lapsesIn_X5_checkMandate : GoodIn wsX5_lapsesIn wsX5_checkMandate := goodIn_ca (goodIn_r _ [6, 7, 8, 1, 9, 10, 11, 12, 13, 14, 60, 61, 62, 63, 64, 65, 66, 67, 68, 69, 70, 71, 72, 73, 74, 75, 76, 77, 78, 79] (by decide +kernel) (by decide +kernel)) (goodIn_sub (fun _ h => List.mem_cons_of_mem _ (List.mem_append_right _ h)) (by decide +kernel))
set_option maxRecDepth 20000 in
theorem gX5_lapsesIn_X5_checkMandate : GoodIn wsX5_lapsesIn (wsV RX5 30 RX5 yX5_checkMandate wsX5_checkMandate) := goodIn_app (goodIn_of _ (by decide +kernel)) ggX5_lapsesIn_X5_checkMandate
set_option maxRecDepth 20000 in
theorem ggX5_lapsesIn_X0_daysUntilLapse : GoodIn wsX5_lapsesIn wsX0_daysUntilLapse := goodIn_r _ [19, 20, 21, 22, 23, 24, 25, 26, 27, 28, 12, 29, 14, 30, 10, 11, 13, 31, 32, 33, 34, 35, 36, 37, 38, 39, 40, 41, 42, 43, 44, 45, 18, 46, 47, 48, 49, 50, 51, 52, 53, 54, 55, 56, 57, 58, 59, 63, 64, 65, 66, 67, 68, 69, 70, 71, 72, 73, 74, 76, 77, 78, 79, 75] (by decide +kernel) (by decide +kernel)
set_option maxRecDepth 20000 in
theorem gX5_lapsesIn_X0_daysUntilLapse : GoodIn wsX5_lapsesIn (wsV RX5 190 RX0 yX0_daysUntilLapse wsX0_daysUntilLapse) := goodIn_app (goodIn_of _ (by decide +kernel)) ggX5_lapsesIn_X0_daysUntilLapse
theorem dX5_lapsesIn_0 : decode cX5_lapsesIn 0 = .ok (.aload_n 0, 1) := by decide +kernel
theorem dX5_lapsesIn_1 : decode cX5_lapsesIn 1 = .ok (.iload_n 1, 1) := by decide +kernel
theorem dX5_lapsesIn_2 : decode cX5_lapsesIn 2 = .ok (.invokevirtual 30, 3) := by decide +kernel
theorem dX5_lapsesIn_5 : decode cX5_lapsesIn 5 = .ok (.aload_n 0, 1) := by decide +kernel
theorem dX5_lapsesIn_6 : decode cX5_lapsesIn 6 = .ok (.getfield 12, 3) := by decide +kernel
theorem dX5_lapsesIn_9 : decode cX5_lapsesIn 9 = .ok (.iload_n 1, 1) := by decide +kernel
theorem dX5_lapsesIn_10 : decode cX5_lapsesIn 10 = .ok (.invokevirtual 190, 3) := by decide +kernel
theorem dX5_lapsesIn_13 : decode cX5_lapsesIn 13 = .ok (.ireturn, 1) := by decide +kernel
set_option maxRecDepth 20000 in
theorem ggX5_usedShare_X5_checkMandate : GoodIn wsX5_usedShare wsX5_checkMandate := goodIn_ca (goodIn_r _ [6, 7, 8, 1, 9, 10, 11, 12, 13, 14, 27, 28, 29, 30, 31, 32, 33, 34, 35, 36, 37, 38, 39, 40, 41, 42, 43, 44, 45, 46] (by decide +kernel) (by decide +kernel)) (goodIn_sub (fun _ h => List.mem_cons_of_mem _ (List.mem_append_right _ h)) (by decide +kernel))
set_option maxRecDepth 20000 in
theorem gX5_usedShare_X5_checkMandate : GoodIn wsX5_usedShare (wsV RX5 30 RX5 yX5_checkMandate wsX5_checkMandate) := goodIn_app (goodIn_of _ (by decide +kernel)) ggX5_usedShare_X5_checkMandate
set_option maxRecDepth 20000 in
theorem ggX5_usedShare_X2_shareUsed : GoodIn wsX5_usedShare wsX2_shareUsed := goodIn_r _ [18, 14, 19, 20, 21, 22, 23, 24, 25, 26, 42, 43, 44, 45, 46] (by decide +kernel) (by decide +kernel)
set_option maxRecDepth 20000 in
theorem gX5_usedShare_X2_shareUsed : GoodIn wsX5_usedShare (wsV RX5 193 RX2 yX2_shareUsed wsX2_shareUsed) := goodIn_app (goodIn_of _ (by decide +kernel)) ggX5_usedShare_X2_shareUsed
theorem dX5_usedShare_0 : decode cX5_usedShare 0 = .ok (.aload_n 0, 1) := by decide +kernel
theorem dX5_usedShare_1 : decode cX5_usedShare 1 = .ok (.iload_n 1, 1) := by decide +kernel
theorem dX5_usedShare_2 : decode cX5_usedShare 2 = .ok (.invokevirtual 30, 3) := by decide +kernel
theorem dX5_usedShare_5 : decode cX5_usedShare 5 = .ok (.aload_n 0, 1) := by decide +kernel
theorem dX5_usedShare_6 : decode cX5_usedShare 6 = .ok (.getfield 12, 3) := by decide +kernel
theorem dX5_usedShare_9 : decode cX5_usedShare 9 = .ok (.getfield 53, 3) := by decide +kernel
theorem dX5_usedShare_12 : decode cX5_usedShare 12 = .ok (.iload_n 1, 1) := by decide +kernel
theorem dX5_usedShare_13 : decode cX5_usedShare 13 = .ok (.invokevirtual 193, 3) := by decide +kernel
theorem dX5_usedShare_16 : decode cX5_usedShare 16 = .ok (.dreturn, 1) := by decide +kernel
set_option maxRecDepth 20000 in
theorem ggX5_digest_X5_count : GoodIn wsX5_digest wsX5_count := goodIn_ca (goodIn_r _ [8, 9, 2, 10, 11, 7, 12, 13, 14, 15, 16, 17, 18, 19, 20, 21, 22, 23, 24, 25, 26, 27, 28, 29, 30, 31, 32, 33, 34, 35, 36, 37, 38, 39, 40, 41, 42, 43, 44, 45, 46, 47, 48, 49, 50, 51, 195, 196, 197, 216, 217, 218, 198, 199, 200, 201, 202, 203, 204, 205, 206, 207, 208, 209, 210, 211, 212, 213, 219] (by decide +kernel) (by decide +kernel)) (goodIn_sub (fun _ h => List.mem_cons_of_mem _ (List.mem_append_right _ h)) (by decide +kernel))
set_option maxRecDepth 20000 in
theorem gX5_digest_X5_count : GoodIn wsX5_digest (wsV RX5 199 RX5 yX5_count wsX5_count) := goodIn_app (goodIn_of _ (by decide +kernel)) ggX5_digest_X5_count
set_option maxRecDepth 20000 in
theorem ggX5_digest_X5_mix : GoodIn wsX5_digest wsX5_mix := goodIn_r _ [54, 55] (by decide +kernel) (by decide +kernel)
set_option maxRecDepth 20000 in
theorem gX5_digest_X5_mix : GoodIn wsX5_digest (va_wsS RX5 202 yX5_mix wsX5_mix) := goodIn_app (goodIn_of _ (by decide +kernel)) ggX5_digest_X5_mix
set_option maxRecDepth 20000 in
theorem ggX5_digest_X2_total : GoodIn wsX5_digest wsX2_total := goodIn_r _ [33, 34, 219, 210, 211, 212, 213] (by decide +kernel) (by decide +kernel)
set_option maxRecDepth 20000 in
theorem gX5_digest_X2_total : GoodIn wsX5_digest (wsV RX5 212 RX2 yX2_total wsX2_total) := goodIn_app (goodIn_of _ (by decide +kernel)) ggX5_digest_X2_total
set_option maxRecDepth 20000 in
theorem ggX5_digest_X5_mixMandate : GoodIn wsX5_digest wsX5_mixMandate := goodIn_r _ [60, 2, 61, 62, 63, 18, 64, 20, 65, 66, 67, 32, 68, 34, 44, 45, 46, 47, 48, 49, 50, 51, 69, 41, 42, 43, 39, 30, 31, 33, 70, 71, 72, 73, 74, 75, 76, 77, 78, 79, 80, 81, 82, 83, 84, 85, 86, 87, 88, 89, 90, 91, 92, 93, 94, 95, 96, 40, 97, 98, 99, 100, 101, 102, 103, 21, 104, 52, 53, 7, 54, 55, 105, 106, 107, 108, 109, 110, 111, 112, 113, 114, 115, 116, 117, 118, 119, 120, 121, 122, 123, 124, 125, 126, 127, 128, 129, 130, 131, 132, 133, 134, 135, 136, 137, 138, 139, 140, 141, 142, 143, 144, 145, 22, 146, 147, 148, 149, 150, 151, 152, 153, 154, 155, 195, 196, 197, 198, 199, 200, 201, 202, 203, 204, 205, 206, 207, 208, 209, 219, 210, 211, 212, 213] (by decide +kernel) (by decide +kernel)
set_option maxRecDepth 20000 in
theorem gX5_digest_X5_mixMandate : GoodIn wsX5_digest (wsV RX5 215 RX5 yX5_mixMandate wsX5_mixMandate) := goodIn_app (goodIn_of _ (by decide +kernel)) ggX5_digest_X5_mixMandate
set_option maxRecDepth 20000 in
theorem ggX5_digest_X0_requestProperty : GoodIn wsX5_digest wsX0_requestProperty := goodIn_r _ [159, 21, 104, 45, 46, 47, 48, 49, 50, 51, 160, 161, 162, 18, 163, 20, 164, 165, 166, 32, 167, 34, 44, 198, 199, 200, 201, 202, 203, 204, 205, 206, 207, 208, 209, 210, 211, 212, 213, 219] (by decide +kernel) (by decide +kernel)
set_option maxRecDepth 20000 in
theorem gX5_digest_X0_requestProperty : GoodIn wsX5_digest (wsV RX5 165 RX0 yX0_requestProperty wsX0_requestProperty) := goodIn_app (goodIn_of _ (by decide +kernel)) ggX5_digest_X0_requestProperty
set_option maxRecDepth 20000 in
theorem ggX5_digest_X0_personNumber : GoodIn wsX5_digest wsX0_personNumber := goodIn_r _ [171, 20, 172, 173, 174, 175, 32, 176, 34, 39, 30, 31, 33, 40, 41, 42, 43, 44, 45, 46, 47, 48, 49, 50, 51, 177, 178, 179, 180, 181, 182, 183, 18, 184, 21, 160, 161, 162, 163, 104, 164, 165, 166, 167, 185, 186, 187, 198, 199, 200, 201, 202, 203, 204, 205, 206, 207, 208, 209, 219, 210, 211, 212, 213] (by decide +kernel) (by decide +kernel)
set_option maxRecDepth 20000 in
theorem gX5_digest_X0_personNumber : GoodIn wsX5_digest (wsV RX5 168 RX0 yX0_personNumber wsX0_personNumber) := goodIn_app (goodIn_of _ (by decide +kernel)) ggX5_digest_X0_personNumber
set_option maxRecDepth 20000 in
theorem ggX5_digest_X4_codeAt : GoodIn wsX5_digest wsX4_codeAt := goodIn_r _ [192, 193, 194, 214, 215] (by decide +kernel) (by decide +kernel)
set_option maxRecDepth 20000 in
theorem gX5_digest_X4_codeAt : GoodIn wsX5_digest (wsV RX5 231 RX4 yX4_codeAt wsX4_codeAt) := goodIn_app (goodIn_of _ (by decide +kernel)) ggX5_digest_X4_codeAt
theorem dX5_digest_0 : decode cX5_digest 0 = .ok (.ldc2_w 197, 3) := by decide +kernel
theorem dX5_digest_3 : decode cX5_digest 3 = .ok (.lstore_n 1, 1) := by decide +kernel
theorem dX5_digest_4 : decode cX5_digest 4 = .ok (.iconst 0, 1) := by decide +kernel
theorem dX5_digest_5 : decode cX5_digest 5 = .ok (.istore_n 3, 1) := by decide +kernel
theorem dX5_digest_6 : decode cX5_digest 6 = .ok (.iload_n 3, 1) := by decide +kernel
theorem dX5_digest_7 : decode cX5_digest 7 = .ok (.bipush 12, 2) := by decide +kernel
theorem dX5_digest_9 : decode cX5_digest 9 = .ok (.if_icmp .ge 20, 3) := by decide +kernel
theorem dX5_digest_12 : decode cX5_digest 12 = .ok (.lload_n 1, 1) := by decide +kernel
theorem dX5_digest_13 : decode cX5_digest 13 = .ok (.aload_n 0, 1) := by decide +kernel
theorem dX5_digest_14 : decode cX5_digest 14 = .ok (.iload_n 3, 1) := by decide +kernel
theorem dX5_digest_15 : decode cX5_digest 15 = .ok (.invokevirtual 199, 3) := by decide +kernel
theorem dX5_digest_18 : decode cX5_digest 18 = .ok (.i2l, 1) := by decide +kernel
theorem dX5_digest_19 : decode cX5_digest 19 = .ok (.invokestatic 202, 3) := by decide +kernel
theorem dX5_digest_22 : decode cX5_digest 22 = .ok (.lstore_n 1, 1) := by decide +kernel
theorem dX5_digest_23 : decode cX5_digest 23 = .ok (.iinc 3 1, 3) := by decide +kernel
theorem dX5_digest_26 : decode cX5_digest 26 = .ok (.goto (-20), 3) := by decide +kernel
theorem dX5_digest_29 : decode cX5_digest 29 = .ok (.lload_n 1, 1) := by decide +kernel
theorem dX5_digest_30 : decode cX5_digest 30 = .ok (.aload_n 0, 1) := by decide +kernel
theorem dX5_digest_31 : decode cX5_digest 31 = .ok (.getfield 12, 3) := by decide +kernel
theorem dX5_digest_34 : decode cX5_digest 34 = .ok (.getfield 206, 3) := by decide +kernel
theorem dX5_digest_37 : decode cX5_digest 37 = .ok (.i2l, 1) := by decide +kernel
theorem dX5_digest_38 : decode cX5_digest 38 = .ok (.invokestatic 202, 3) := by decide +kernel
theorem dX5_digest_41 : decode cX5_digest 41 = .ok (.lstore_n 1, 1) := by decide +kernel
theorem dX5_digest_42 : decode cX5_digest 42 = .ok (.lload_n 1, 1) := by decide +kernel
theorem dX5_digest_43 : decode cX5_digest 43 = .ok (.aload_n 0, 1) := by decide +kernel
theorem dX5_digest_44 : decode cX5_digest 44 = .ok (.getfield 12, 3) := by decide +kernel
theorem dX5_digest_47 : decode cX5_digest 47 = .ok (.getfield 209, 3) := by decide +kernel
theorem dX5_digest_50 : decode cX5_digest 50 = .ok (.i2l, 1) := by decide +kernel
theorem dX5_digest_51 : decode cX5_digest 51 = .ok (.invokestatic 202, 3) := by decide +kernel
theorem dX5_digest_54 : decode cX5_digest 54 = .ok (.lstore_n 1, 1) := by decide +kernel
theorem dX5_digest_55 : decode cX5_digest 55 = .ok (.iconst 0, 1) := by decide +kernel
theorem dX5_digest_56 : decode cX5_digest 56 = .ok (.istore_n 3, 1) := by decide +kernel
theorem dX5_digest_57 : decode cX5_digest 57 = .ok (.iload_n 3, 1) := by decide +kernel
theorem dX5_digest_58 : decode cX5_digest 58 = .ok (.aload_n 0, 1) := by decide +kernel
theorem dX5_digest_59 : decode cX5_digest 59 = .ok (.getfield 12, 3) := by decide +kernel
theorem dX5_digest_62 : decode cX5_digest 62 = .ok (.getfield 53, 3) := by decide +kernel
theorem dX5_digest_65 : decode cX5_digest 65 = .ok (.invokevirtual 212, 3) := by decide +kernel
theorem dX5_digest_68 : decode cX5_digest 68 = .ok (.if_icmp .ge 16, 3) := by decide +kernel
theorem dX5_digest_71 : decode cX5_digest 71 = .ok (.aload_n 0, 1) := by decide +kernel
theorem dX5_digest_72 : decode cX5_digest 72 = .ok (.lload_n 1, 1) := by decide +kernel
theorem dX5_digest_73 : decode cX5_digest 73 = .ok (.iload_n 3, 1) := by decide +kernel
theorem dX5_digest_74 : decode cX5_digest 74 = .ok (.invokevirtual 215, 3) := by decide +kernel
theorem dX5_digest_77 : decode cX5_digest 77 = .ok (.lstore_n 1, 1) := by decide +kernel
theorem dX5_digest_78 : decode cX5_digest 78 = .ok (.iinc 3 1, 3) := by decide +kernel
theorem dX5_digest_81 : decode cX5_digest 81 = .ok (.goto (-24), 3) := by decide +kernel
theorem dX5_digest_84 : decode cX5_digest 84 = .ok (.iconst 0, 1) := by decide +kernel
theorem dX5_digest_85 : decode cX5_digest 85 = .ok (.istore_n 3, 1) := by decide +kernel
theorem dX5_digest_86 : decode cX5_digest 86 = .ok (.iload_n 3, 1) := by decide +kernel
theorem dX5_digest_87 : decode cX5_digest 87 = .ok (.aload_n 0, 1) := by decide +kernel
theorem dX5_digest_88 : decode cX5_digest 88 = .ok (.getfield 12, 3) := by decide +kernel
theorem dX5_digest_91 : decode cX5_digest 91 = .ok (.getfield 219, 3) := by decide +kernel
theorem dX5_digest_94 : decode cX5_digest 94 = .ok (.getfield 223, 3) := by decide +kernel
theorem dX5_digest_97 : decode cX5_digest 97 = .ok (.if_icmp .ge 41, 3) := by decide +kernel
theorem dX5_digest_100 : decode cX5_digest 100 = .ok (.iconst 0, 1) := by decide +kernel
theorem dX5_digest_101 : decode cX5_digest 101 = .ok (.istore 4, 2) := by decide +kernel
theorem dX5_digest_103 : decode cX5_digest 103 = .ok (.iload 4, 2) := by decide +kernel
theorem dX5_digest_105 : decode cX5_digest 105 = .ok (.bipush 7, 2) := by decide +kernel
theorem dX5_digest_107 : decode cX5_digest 107 = .ok (.if_icmp .ge 25, 3) := by decide +kernel
theorem dX5_digest_110 : decode cX5_digest 110 = .ok (.lload_n 1, 1) := by decide +kernel
theorem dX5_digest_111 : decode cX5_digest 111 = .ok (.aload_n 0, 1) := by decide +kernel
theorem dX5_digest_112 : decode cX5_digest 112 = .ok (.getfield 12, 3) := by decide +kernel
theorem dX5_digest_115 : decode cX5_digest 115 = .ok (.iload_n 3, 1) := by decide +kernel
theorem dX5_digest_116 : decode cX5_digest 116 = .ok (.iload 4, 2) := by decide +kernel
theorem dX5_digest_118 : decode cX5_digest 118 = .ok (.invokevirtual 165, 3) := by decide +kernel
theorem dX5_digest_121 : decode cX5_digest 121 = .ok (.i2l, 1) := by decide +kernel
theorem dX5_digest_122 : decode cX5_digest 122 = .ok (.invokestatic 202, 3) := by decide +kernel
theorem dX5_digest_125 : decode cX5_digest 125 = .ok (.lstore_n 1, 1) := by decide +kernel
theorem dX5_digest_126 : decode cX5_digest 126 = .ok (.iinc 4 1, 3) := by decide +kernel
theorem dX5_digest_129 : decode cX5_digest 129 = .ok (.goto (-26), 3) := by decide +kernel
theorem dX5_digest_132 : decode cX5_digest 132 = .ok (.iinc 3 1, 3) := by decide +kernel
theorem dX5_digest_135 : decode cX5_digest 135 = .ok (.goto (-49), 3) := by decide +kernel
theorem dX5_digest_138 : decode cX5_digest 138 = .ok (.iconst 0, 1) := by decide +kernel
theorem dX5_digest_139 : decode cX5_digest 139 = .ok (.istore_n 3, 1) := by decide +kernel
theorem dX5_digest_140 : decode cX5_digest 140 = .ok (.iload_n 3, 1) := by decide +kernel
theorem dX5_digest_141 : decode cX5_digest 141 = .ok (.bipush 8, 2) := by decide +kernel
theorem dX5_digest_143 : decode cX5_digest 143 = .ok (.if_icmp .ge 40, 3) := by decide +kernel
theorem dX5_digest_146 : decode cX5_digest 146 = .ok (.iconst 0, 1) := by decide +kernel
theorem dX5_digest_147 : decode cX5_digest 147 = .ok (.istore 4, 2) := by decide +kernel
theorem dX5_digest_149 : decode cX5_digest 149 = .ok (.iload 4, 2) := by decide +kernel
theorem dX5_digest_151 : decode cX5_digest 151 = .ok (.iconst 4, 1) := by decide +kernel
theorem dX5_digest_152 : decode cX5_digest 152 = .ok (.if_icmp .ge 25, 3) := by decide +kernel
theorem dX5_digest_155 : decode cX5_digest 155 = .ok (.lload_n 1, 1) := by decide +kernel
theorem dX5_digest_156 : decode cX5_digest 156 = .ok (.aload_n 0, 1) := by decide +kernel
theorem dX5_digest_157 : decode cX5_digest 157 = .ok (.getfield 12, 3) := by decide +kernel
theorem dX5_digest_160 : decode cX5_digest 160 = .ok (.iload_n 3, 1) := by decide +kernel
theorem dX5_digest_161 : decode cX5_digest 161 = .ok (.iload 4, 2) := by decide +kernel
theorem dX5_digest_163 : decode cX5_digest 163 = .ok (.invokevirtual 168, 3) := by decide +kernel
theorem dX5_digest_166 : decode cX5_digest 166 = .ok (.i2l, 1) := by decide +kernel
theorem dX5_digest_167 : decode cX5_digest 167 = .ok (.invokestatic 202, 3) := by decide +kernel
theorem dX5_digest_170 : decode cX5_digest 170 = .ok (.lstore_n 1, 1) := by decide +kernel
theorem dX5_digest_171 : decode cX5_digest 171 = .ok (.iinc 4 1, 3) := by decide +kernel
theorem dX5_digest_174 : decode cX5_digest 174 = .ok (.goto (-25), 3) := by decide +kernel
theorem dX5_digest_177 : decode cX5_digest 177 = .ok (.iinc 3 1, 3) := by decide +kernel
theorem dX5_digest_180 : decode cX5_digest 180 = .ok (.goto (-40), 3) := by decide +kernel
theorem dX5_digest_183 : decode cX5_digest 183 = .ok (.lload_n 1, 1) := by decide +kernel
theorem dX5_digest_184 : decode cX5_digest 184 = .ok (.aload_n 0, 1) := by decide +kernel
theorem dX5_digest_185 : decode cX5_digest 185 = .ok (.getfield 26, 3) := by decide +kernel
theorem dX5_digest_188 : decode cX5_digest 188 = .ok (.getfield 228, 3) := by decide +kernel
theorem dX5_digest_191 : decode cX5_digest 191 = .ok (.i2l, 1) := by decide +kernel
theorem dX5_digest_192 : decode cX5_digest 192 = .ok (.invokestatic 202, 3) := by decide +kernel
theorem dX5_digest_195 : decode cX5_digest 195 = .ok (.lstore_n 1, 1) := by decide +kernel
theorem dX5_digest_196 : decode cX5_digest 196 = .ok (.iconst 0, 1) := by decide +kernel
theorem dX5_digest_197 : decode cX5_digest 197 = .ok (.istore_n 3, 1) := by decide +kernel
theorem dX5_digest_198 : decode cX5_digest 198 = .ok (.iload_n 3, 1) := by decide +kernel
theorem dX5_digest_199 : decode cX5_digest 199 = .ok (.aload_n 0, 1) := by decide +kernel
theorem dX5_digest_200 : decode cX5_digest 200 = .ok (.getfield 26, 3) := by decide +kernel
theorem dX5_digest_203 : decode cX5_digest 203 = .ok (.getfield 228, 3) := by decide +kernel
theorem dX5_digest_206 : decode cX5_digest 206 = .ok (.if_icmp .ge 23, 3) := by decide +kernel
theorem dX5_digest_209 : decode cX5_digest 209 = .ok (.lload_n 1, 1) := by decide +kernel
theorem dX5_digest_210 : decode cX5_digest 210 = .ok (.aload_n 0, 1) := by decide +kernel
theorem dX5_digest_211 : decode cX5_digest 211 = .ok (.getfield 26, 3) := by decide +kernel
theorem dX5_digest_214 : decode cX5_digest 214 = .ok (.iload_n 3, 1) := by decide +kernel
theorem dX5_digest_215 : decode cX5_digest 215 = .ok (.invokevirtual 231, 3) := by decide +kernel
theorem dX5_digest_218 : decode cX5_digest 218 = .ok (.i2l, 1) := by decide +kernel
theorem dX5_digest_219 : decode cX5_digest 219 = .ok (.invokestatic 202, 3) := by decide +kernel
theorem dX5_digest_222 : decode cX5_digest 222 = .ok (.lstore_n 1, 1) := by decide +kernel
theorem dX5_digest_223 : decode cX5_digest 223 = .ok (.iinc 3 1, 3) := by decide +kernel
theorem dX5_digest_226 : decode cX5_digest 226 = .ok (.goto (-28), 3) := by decide +kernel
theorem dX5_digest_229 : decode cX5_digest 229 = .ok (.lload_n 1, 1) := by decide +kernel
theorem dX5_digest_230 : decode cX5_digest 230 = .ok (.lreturn, 1) := by decide +kernel
set_option maxRecDepth 20000 in
theorem ggX5_checkMandate_X2_total : GoodIn wsX5_checkMandate wsX2_total := goodIn_r _ [8, 9, 25, 26, 27, 28, 29] (by decide +kernel) (by decide +kernel)
set_option maxRecDepth 20000 in
theorem gX5_checkMandate_X2_total : GoodIn wsX5_checkMandate (wsV RX5 212 RX2 yX2_total wsX2_total) := goodIn_app (goodIn_of _ (by decide +kernel)) ggX5_checkMandate_X2_total
theorem dX5_checkMandate_0 : decode cX5_checkMandate 0 = .ok (.iload_n 1, 1) := by decide +kernel
theorem dX5_checkMandate_1 : decode cX5_checkMandate 1 = .ok (.ifCond .lt 17, 3) := by decide +kernel
theorem dX5_checkMandate_4 : decode cX5_checkMandate 4 = .ok (.iload_n 1, 1) := by decide +kernel
theorem dX5_checkMandate_5 : decode cX5_checkMandate 5 = .ok (.aload_n 0, 1) := by decide +kernel
theorem dX5_checkMandate_6 : decode cX5_checkMandate 6 = .ok (.getfield 12, 3) := by decide +kernel
theorem dX5_checkMandate_9 : decode cX5_checkMandate 9 = .ok (.getfield 53, 3) := by decide +kernel
theorem dX5_checkMandate_12 : decode cX5_checkMandate 12 = .ok (.invokevirtual 212, 3) := by decide +kernel
theorem dX5_checkMandate_15 : decode cX5_checkMandate 15 = .ok (.if_icmp .lt 13, 3) := by decide +kernel
theorem dX5_checkMandate_18 : decode cX5_checkMandate 18 = .ok (.new 234, 3) := by decide +kernel
theorem dX5_checkMandate_21 : decode cX5_checkMandate 21 = .ok (.dup, 1) := by decide +kernel
theorem dX5_checkMandate_22 : decode cX5_checkMandate 22 = .ok (.ldc 236, 2) := by decide +kernel
theorem dX5_checkMandate_24 : decode cX5_checkMandate 24 = .ok (.invokespecial 238, 3) := by decide +kernel
theorem dX5_checkMandate_27 : decode cX5_checkMandate 27 = .ok (.athrow, 1) := by decide +kernel
theorem dX5_checkMandate_28 : decode cX5_checkMandate 28 = .ok (.return_, 1) := by decide +kernel
theorem dX5_checkRequest_0 : decode cX5_checkRequest 0 = .ok (.iload_n 1, 1) := by decide +kernel
theorem dX5_checkRequest_1 : decode cX5_checkRequest 1 = .ok (.ifCond .lt 17, 3) := by decide +kernel
theorem dX5_checkRequest_4 : decode cX5_checkRequest 4 = .ok (.iload_n 1, 1) := by decide +kernel
theorem dX5_checkRequest_5 : decode cX5_checkRequest 5 = .ok (.aload_n 0, 1) := by decide +kernel
theorem dX5_checkRequest_6 : decode cX5_checkRequest 6 = .ok (.getfield 12, 3) := by decide +kernel
theorem dX5_checkRequest_9 : decode cX5_checkRequest 9 = .ok (.getfield 219, 3) := by decide +kernel
theorem dX5_checkRequest_12 : decode cX5_checkRequest 12 = .ok (.getfield 223, 3) := by decide +kernel
theorem dX5_checkRequest_15 : decode cX5_checkRequest 15 = .ok (.if_icmp .lt 13, 3) := by decide +kernel
theorem dX5_checkRequest_18 : decode cX5_checkRequest 18 = .ok (.new 234, 3) := by decide +kernel
theorem dX5_checkRequest_21 : decode cX5_checkRequest 21 = .ok (.dup, 1) := by decide +kernel
theorem dX5_checkRequest_22 : decode cX5_checkRequest 22 = .ok (.ldc 239, 2) := by decide +kernel
theorem dX5_checkRequest_24 : decode cX5_checkRequest 24 = .ok (.invokespecial 238, 3) := by decide +kernel
theorem dX5_checkRequest_27 : decode cX5_checkRequest 27 = .ok (.athrow, 1) := by decide +kernel
theorem dX5_checkRequest_28 : decode cX5_checkRequest 28 = .ok (.return_, 1) := by decide +kernel
theorem dX5_checkPerson_0 : decode cX5_checkPerson 0 = .ok (.iload_n 0, 1) := by decide +kernel
theorem dX5_checkPerson_1 : decode cX5_checkPerson 1 = .ok (.ifCond .lt 9, 3) := by decide +kernel
theorem dX5_checkPerson_4 : decode cX5_checkPerson 4 = .ok (.iload_n 0, 1) := by decide +kernel
theorem dX5_checkPerson_5 : decode cX5_checkPerson 5 = .ok (.bipush 8, 2) := by decide +kernel
theorem dX5_checkPerson_7 : decode cX5_checkPerson 7 = .ok (.if_icmp .lt 13, 3) := by decide +kernel
theorem dX5_checkPerson_10 : decode cX5_checkPerson 10 = .ok (.new 234, 3) := by decide +kernel
theorem dX5_checkPerson_13 : decode cX5_checkPerson 13 = .ok (.dup, 1) := by decide +kernel
theorem dX5_checkPerson_14 : decode cX5_checkPerson 14 = .ok (.ldc 241, 2) := by decide +kernel
theorem dX5_checkPerson_16 : decode cX5_checkPerson 16 = .ok (.invokespecial 238, 3) := by decide +kernel
theorem dX5_checkPerson_19 : decode cX5_checkPerson 19 = .ok (.athrow, 1) := by decide +kernel
theorem dX5_checkPerson_20 : decode cX5_checkPerson 20 = .ok (.return_, 1) := by decide +kernel
theorem dX5_checkSetting_0 : decode cX5_checkSetting 0 = .ok (.iload_n 0, 1) := by decide +kernel
theorem dX5_checkSetting_1 : decode cX5_checkSetting 1 = .ok (.ifCond .eq 18, 3) := by decide +kernel
theorem dX5_checkSetting_4 : decode cX5_checkSetting 4 = .ok (.iload_n 0, 1) := by decide +kernel
theorem dX5_checkSetting_5 : decode cX5_checkSetting 5 = .ok (.iconst 1, 1) := by decide +kernel
theorem dX5_checkSetting_6 : decode cX5_checkSetting 6 = .ok (.if_icmp .eq 13, 3) := by decide +kernel
theorem dX5_checkSetting_9 : decode cX5_checkSetting 9 = .ok (.new 234, 3) := by decide +kernel
theorem dX5_checkSetting_12 : decode cX5_checkSetting 12 = .ok (.dup, 1) := by decide +kernel
theorem dX5_checkSetting_13 : decode cX5_checkSetting 13 = .ok (.ldc 243, 2) := by decide +kernel
theorem dX5_checkSetting_15 : decode cX5_checkSetting 15 = .ok (.invokespecial 238, 3) := by decide +kernel
theorem dX5_checkSetting_18 : decode cX5_checkSetting 18 = .ok (.athrow, 1) := by decide +kernel
theorem dX5_checkSetting_19 : decode cX5_checkSetting 19 = .ok (.return_, 1) := by decide +kernel
theorem dX5_checkRange_0 : decode cX5_checkRange 0 = .ok (.iload_n 0, 1) := by decide +kernel
theorem dX5_checkRange_1 : decode cX5_checkRange 1 = .ok (.iload_n 1, 1) := by decide +kernel
theorem dX5_checkRange_2 : decode cX5_checkRange 2 = .ok (.if_icmp .lt 8, 3) := by decide +kernel
theorem dX5_checkRange_5 : decode cX5_checkRange 5 = .ok (.iload_n 0, 1) := by decide +kernel
theorem dX5_checkRange_6 : decode cX5_checkRange 6 = .ok (.iload_n 2, 1) := by decide +kernel
theorem dX5_checkRange_7 : decode cX5_checkRange 7 = .ok (.if_icmp .le 13, 3) := by decide +kernel
theorem dX5_checkRange_10 : decode cX5_checkRange 10 = .ok (.new 145, 3) := by decide +kernel
theorem dX5_checkRange_13 : decode cX5_checkRange 13 = .ok (.dup, 1) := by decide +kernel
theorem dX5_checkRange_14 : decode cX5_checkRange 14 = .ok (.ldc 245, 2) := by decide +kernel
theorem dX5_checkRange_16 : decode cX5_checkRange 16 = .ok (.invokespecial 149, 3) := by decide +kernel
theorem dX5_checkRange_19 : decode cX5_checkRange 19 = .ok (.athrow, 1) := by decide +kernel
theorem dX5_checkRange_20 : decode cX5_checkRange 20 = .ok (.return_, 1) := by decide +kernel
set_option maxRecDepth 20000 in
theorem ggX5_checkStands_X2_stands : GoodIn wsX5_checkStands wsX2_stands := goodIn_r _ [8, 9, 10, 11, 12, 7, 13, 14, 15, 16, 17, 18, 19, 20, 21, 37, 38, 39, 40, 41] (by decide +kernel) (by decide +kernel)
set_option maxRecDepth 20000 in
theorem gX5_checkStands_X2_stands : GoodIn wsX5_checkStands (wsV RX5 247 RX2 yX2_stands wsX2_stands) := goodIn_app (goodIn_of _ (by decide +kernel)) ggX5_checkStands_X2_stands
theorem dX5_checkStands_0 : decode cX5_checkStands 0 = .ok (.aload_n 0, 1) := by decide +kernel
theorem dX5_checkStands_1 : decode cX5_checkStands 1 = .ok (.getfield 12, 3) := by decide +kernel
theorem dX5_checkStands_4 : decode cX5_checkStands 4 = .ok (.getfield 53, 3) := by decide +kernel
theorem dX5_checkStands_7 : decode cX5_checkStands 7 = .ok (.iload_n 1, 1) := by decide +kernel
theorem dX5_checkStands_8 : decode cX5_checkStands 8 = .ok (.invokevirtual 247, 3) := by decide +kernel
theorem dX5_checkStands_11 : decode cX5_checkStands 11 = .ok (.ifCond .ne 13, 3) := by decide +kernel
theorem dX5_checkStands_14 : decode cX5_checkStands 14 = .ok (.new 42, 3) := by decide +kernel
theorem dX5_checkStands_17 : decode cX5_checkStands 17 = .ok (.dup, 1) := by decide +kernel
theorem dX5_checkStands_18 : decode cX5_checkStands 18 = .ok (.ldc 250, 2) := by decide +kernel
theorem dX5_checkStands_20 : decode cX5_checkStands 20 = .ok (.invokespecial 46, 3) := by decide +kernel
theorem dX5_checkStands_23 : decode cX5_checkStands 23 = .ok (.athrow, 1) := by decide +kernel
theorem dX5_checkStands_24 : decode cX5_checkStands 24 = .ok (.return_, 1) := by decide +kernel
set_option maxRecDepth 20000 in
theorem ggX5_askFor_X5_checkMandate : GoodIn wsX5_askFor wsX5_checkMandate := goodIn_ca (goodIn_r _ [9, 10, 11, 3, 12, 13, 14, 15, 16, 17, 128, 129, 130, 131, 132, 133, 134, 135, 136, 137, 138, 139, 140, 141, 142, 143, 144, 145, 146, 147] (by decide +kernel) (by decide +kernel)) (goodIn_sub (fun _ h => List.mem_cons_of_mem _ (List.mem_append_left _ (List.mem_append_right _ h))) (by decide +kernel))
set_option maxRecDepth 20000 in
theorem gX5_askFor_X5_checkMandate : GoodIn wsX5_askFor (wsV RX5 30 RX5 yX5_checkMandate wsX5_checkMandate) := goodIn_app (goodIn_of _ (by decide +kernel)) ggX5_askFor_X5_checkMandate
set_option maxRecDepth 20000 in
theorem ggX5_askFor_X5_checkRange : GoodIn wsX5_askFor wsX5_checkRange := goodIn_ca (goodIn_r _ [20, 21, 22] (by decide +kernel) (by decide +kernel)) (goodIn_sub (fun _ h => List.mem_cons_of_mem _ (List.mem_append_right _ h)) (by decide +kernel))
set_option maxRecDepth 20000 in
theorem gX5_askFor_X5_checkRange : GoodIn wsX5_askFor (va_wsS RX5 34 yX5_checkRange wsX5_checkRange) := goodIn_app (goodIn_of _ (by decide +kernel)) ggX5_askFor_X5_checkRange
set_option maxRecDepth 20000 in
theorem ggX5_askFor_X0_canAskFor : GoodIn wsX5_askFor wsX0_canAskFor := goodIn_r _ [27, 28, 29, 30, 31, 32, 15, 33, 17, 34, 35, 36, 37, 38, 13, 14, 16, 39, 40, 41, 42, 43, 44, 45, 46, 47, 48, 49, 50, 51, 52, 53, 54, 55, 56, 57, 58, 59, 60, 61, 62, 63, 64, 65, 66, 67, 131, 132, 133, 134, 135, 136, 137, 138, 139, 140, 141, 142, 143, 144, 145, 146, 147] (by decide +kernel) (by decide +kernel)
set_option maxRecDepth 20000 in
theorem gX5_askFor_X0_canAskFor : GoodIn wsX5_askFor (wsV RX5 252 RX0 yX0_canAskFor wsX0_canAskFor) := goodIn_app (goodIn_of _ (by decide +kernel)) ggX5_askFor_X0_canAskFor
set_option maxRecDepth 20000 in
theorem ggX5_askFor_X1_keep : GoodIn wsX5_askFor wsX1_keep := goodIn_r _ [72, 73, 74, 75, 76, 77, 71, 78, 79, 80, 81, 82, 83, 84, 85, 26, 86, 28, 29, 87, 88, 89, 90, 91, 92, 93, 94, 95, 96, 97, 98, 99, 42, 100, 44, 46, 148, 149, 150, 131, 132, 133, 134, 135, 136, 137, 138, 139, 140, 141, 142, 143, 144, 145, 146, 147] (by decide +kernel) (by decide +kernel)
set_option maxRecDepth 20000 in
theorem gX5_askFor_X1_keep : GoodIn wsX5_askFor (wsV RX5 49 RX1 yX1_keep wsX1_keep) := goodIn_app (goodIn_of _ (by decide +kernel)) ggX5_askFor_X1_keep
set_option maxRecDepth 20000 in
theorem ggX5_askFor_X0_carryOut : GoodIn wsX5_askFor wsX0_carryOut := goodIn_r _ [104, 28, 94, 59, 60, 61, 15, 62, 17, 39, 40, 41, 42, 43, 44, 45, 46, 105, 106, 107, 26, 108, 91, 92, 93, 109, 110, 111, 112, 113, 114, 115, 116, 117, 118, 119, 120, 29, 88, 121, 122, 123, 124, 125, 64, 65, 66, 67, 126, 127, 131, 132, 133, 134, 135, 136, 137, 138, 139, 140, 141, 142, 143, 144, 145, 146, 147] (by decide +kernel) (by decide +kernel)
set_option maxRecDepth 20000 in
theorem gX5_askFor_X0_carryOut : GoodIn wsX5_askFor (wsV RX5 258 RX0 yX0_carryOut wsX0_carryOut) := goodIn_app (goodIn_of _ (by decide +kernel)) ggX5_askFor_X0_carryOut
theorem dX5_askFor_0 : decode cX5_askFor 0 = .ok (.aload_n 0, 1) := by decide +kernel
theorem dX5_askFor_1 : decode cX5_askFor 1 = .ok (.iload_n 1, 1) := by decide +kernel
theorem dX5_askFor_2 : decode cX5_askFor 2 = .ok (.invokevirtual 30, 3) := by decide +kernel
theorem dX5_askFor_5 : decode cX5_askFor 5 = .ok (.iload_n 2, 1) := by decide +kernel
theorem dX5_askFor_6 : decode cX5_askFor 6 = .ok (.iconst 1, 1) := by decide +kernel
theorem dX5_askFor_7 : decode cX5_askFor 7 = .ok (.sipush 9999, 3) := by decide +kernel
theorem dX5_askFor_10 : decode cX5_askFor 10 = .ok (.invokestatic 34, 3) := by decide +kernel
theorem dX5_askFor_13 : decode cX5_askFor 13 = .ok (.aload_n 0, 1) := by decide +kernel
theorem dX5_askFor_14 : decode cX5_askFor 14 = .ok (.getfield 12, 3) := by decide +kernel
theorem dX5_askFor_17 : decode cX5_askFor 17 = .ok (.iload_n 1, 1) := by decide +kernel
theorem dX5_askFor_18 : decode cX5_askFor 18 = .ok (.iload_n 2, 1) := by decide +kernel
theorem dX5_askFor_19 : decode cX5_askFor 19 = .ok (.iload_n 3, 1) := by decide +kernel
theorem dX5_askFor_20 : decode cX5_askFor 20 = .ok (.invokevirtual 252, 3) := by decide +kernel
theorem dX5_askFor_23 : decode cX5_askFor 23 = .ok (.ifCond .ne 14, 3) := by decide +kernel
theorem dX5_askFor_26 : decode cX5_askFor 26 = .ok (.new 42, 3) := by decide +kernel
theorem dX5_askFor_29 : decode cX5_askFor 29 = .ok (.dup, 1) := by decide +kernel
theorem dX5_askFor_30 : decode cX5_askFor 30 = .ok (.ldc_w 256, 3) := by decide +kernel
theorem dX5_askFor_33 : decode cX5_askFor 33 = .ok (.invokespecial 46, 3) := by decide +kernel
theorem dX5_askFor_36 : decode cX5_askFor 36 = .ok (.athrow, 1) := by decide +kernel
theorem dX5_askFor_37 : decode cX5_askFor 37 = .ok (.aload_n 0, 1) := by decide +kernel
theorem dX5_askFor_38 : decode cX5_askFor 38 = .ok (.getfield 19, 3) := by decide +kernel
theorem dX5_askFor_41 : decode cX5_askFor 41 = .ok (.aload_n 0, 1) := by decide +kernel
theorem dX5_askFor_42 : decode cX5_askFor 42 = .ok (.getfield 12, 3) := by decide +kernel
theorem dX5_askFor_45 : decode cX5_askFor 45 = .ok (.invokevirtual 49, 3) := by decide +kernel
theorem dX5_askFor_48 : decode cX5_askFor 48 = .ok (.aload_n 0, 1) := by decide +kernel
theorem dX5_askFor_49 : decode cX5_askFor 49 = .ok (.getfield 12, 3) := by decide +kernel
theorem dX5_askFor_52 : decode cX5_askFor 52 = .ok (.iload_n 1, 1) := by decide +kernel
theorem dX5_askFor_53 : decode cX5_askFor 53 = .ok (.iload_n 2, 1) := by decide +kernel
theorem dX5_askFor_54 : decode cX5_askFor 54 = .ok (.iload_n 3, 1) := by decide +kernel
theorem dX5_askFor_55 : decode cX5_askFor 55 = .ok (.invokevirtual 258, 3) := by decide +kernel
theorem dX5_askFor_58 : decode cX5_askFor 58 = .ok (.ireturn, 1) := by decide +kernel
set_option maxRecDepth 20000 in
theorem ggX5_carryOutText_X4_codeAt : GoodIn wsX5_carryOutText wsX4_codeAt := goodIn_r _ [7, 8, 9, 108, 109] (by decide +kernel) (by decide +kernel)
set_option maxRecDepth 20000 in
theorem gX5_carryOutText_X4_codeAt : GoodIn wsX5_carryOutText (wsV RX5 231 RX4 yX4_codeAt wsX4_codeAt) := goodIn_app (goodIn_of _ (by decide +kernel)) ggX5_carryOutText_X4_codeAt
set_option maxRecDepth 20000 in
theorem ggX5_carryOutText_X4_endOfNumber : GoodIn wsX5_carryOutText wsX4_endOfNumber := goodIn_r _ [13, 8, 14, 4, 5, 6, 7, 9, 15, 16, 17, 108, 109] (by decide +kernel) (by decide +kernel)
set_option maxRecDepth 20000 in
theorem gX5_carryOutText_X4_endOfNumber : GoodIn wsX5_carryOutText (wsV RX5 261 RX4 yX4_endOfNumber wsX4_endOfNumber) := goodIn_app (goodIn_of _ (by decide +kernel)) ggX5_carryOutText_X4_endOfNumber
set_option maxRecDepth 20000 in
theorem ggX5_carryOutText_X4_numberIn : GoodIn wsX5_carryOutText wsX4_numberIn := goodIn_r _ [21, 14, 4, 5, 6, 7, 8, 9, 108, 109] (by decide +kernel) (by decide +kernel)
set_option maxRecDepth 20000 in
theorem gX5_carryOutText_X4_numberIn : GoodIn wsX5_carryOutText (wsV RX5 264 RX4 yX4_numberIn wsX4_numberIn) := goodIn_app (goodIn_of _ (by decide +kernel)) ggX5_carryOutText_X4_numberIn
set_option maxRecDepth 20000 in
theorem ggX5_carryOutText_X2_total : GoodIn wsX5_carryOutText wsX2_total := goodIn_r _ [26, 27, 122, 123, 124, 125, 126] (by decide +kernel) (by decide +kernel)
set_option maxRecDepth 20000 in
theorem gX5_carryOutText_X2_total : GoodIn wsX5_carryOutText (wsV RX5 212 RX2 yX2_total wsX2_total) := goodIn_app (goodIn_of _ (by decide +kernel)) ggX5_carryOutText_X2_total
set_option maxRecDepth 20000 in
theorem ggX5_carryOutText_X0_canAskFor : GoodIn wsX5_carryOutText wsX0_canAskFor := goodIn_r _ [32, 33, 34, 35, 36, 37, 25, 38, 27, 39, 40, 41, 42, 43, 23, 24, 26, 44, 45, 46, 47, 48, 49, 50, 51, 52, 53, 54, 55, 56, 57, 58, 59, 60, 61, 62, 63, 64, 65, 66, 67, 68, 69, 70, 71, 72, 110, 111, 112, 113, 114, 115, 116, 117, 118, 119, 120, 121, 122, 123, 124, 125, 126] (by decide +kernel) (by decide +kernel)
set_option maxRecDepth 20000 in
theorem gX5_carryOutText_X0_canAskFor : GoodIn wsX5_carryOutText (wsV RX5 252 RX0 yX0_canAskFor wsX0_canAskFor) := goodIn_app (goodIn_of _ (by decide +kernel)) ggX5_carryOutText_X0_canAskFor
set_option maxRecDepth 20000 in
theorem ggX5_carryOutText_X0_carryOut : GoodIn wsX5_carryOutText wsX0_carryOut := goodIn_r _ [76, 33, 77, 64, 65, 66, 25, 67, 27, 44, 45, 46, 47, 48, 49, 50, 51, 78, 79, 80, 31, 81, 82, 83, 84, 85, 86, 87, 88, 89, 90, 91, 92, 93, 94, 95, 96, 34, 97, 98, 99, 100, 101, 102, 69, 70, 71, 72, 103, 104, 110, 111, 112, 113, 114, 115, 116, 117, 118, 119, 120, 121, 122, 123, 124, 125, 126] (by decide +kernel) (by decide +kernel)
set_option maxRecDepth 20000 in
theorem gX5_carryOutText_X0_carryOut : GoodIn wsX5_carryOutText (wsV RX5 258 RX0 yX0_carryOut wsX0_carryOut) := goodIn_app (goodIn_of _ (by decide +kernel)) ggX5_carryOutText_X0_carryOut
theorem dX5_carryOutText_0 : decode cX5_carryOutText 0 = .ok (.iconst 0, 1) := by decide +kernel
theorem dX5_carryOutText_1 : decode cX5_carryOutText 1 = .ok (.istore_n 1, 1) := by decide +kernel
theorem dX5_carryOutText_2 : decode cX5_carryOutText 2 = .ok (.iconst 0, 1) := by decide +kernel
theorem dX5_carryOutText_3 : decode cX5_carryOutText 3 = .ok (.istore_n 2, 1) := by decide +kernel
theorem dX5_carryOutText_4 : decode cX5_carryOutText 4 = .ok (.iconst 0, 1) := by decide +kernel
theorem dX5_carryOutText_5 : decode cX5_carryOutText 5 = .ok (.istore_n 3, 1) := by decide +kernel
theorem dX5_carryOutText_6 : decode cX5_carryOutText 6 = .ok (.iload_n 3, 1) := by decide +kernel
theorem dX5_carryOutText_7 : decode cX5_carryOutText 7 = .ok (.bipush 60, 2) := by decide +kernel
theorem dX5_carryOutText_9 : decode cX5_carryOutText 9 = .ok (.if_icmp .ge 150, 3) := by decide +kernel
theorem dX5_carryOutText_12 : decode cX5_carryOutText 12 = .ok (.iload_n 2, 1) := by decide +kernel
theorem dX5_carryOutText_13 : decode cX5_carryOutText 13 = .ok (.aload_n 0, 1) := by decide +kernel
theorem dX5_carryOutText_14 : decode cX5_carryOutText 14 = .ok (.getfield 26, 3) := by decide +kernel
theorem dX5_carryOutText_17 : decode cX5_carryOutText 17 = .ok (.getfield 228, 3) := by decide +kernel
theorem dX5_carryOutText_20 : decode cX5_carryOutText 20 = .ok (.if_icmp .ge 139, 3) := by decide +kernel
theorem dX5_carryOutText_23 : decode cX5_carryOutText 23 = .ok (.aload_n 0, 1) := by decide +kernel
theorem dX5_carryOutText_24 : decode cX5_carryOutText 24 = .ok (.getfield 26, 3) := by decide +kernel
theorem dX5_carryOutText_27 : decode cX5_carryOutText 27 = .ok (.iload_n 2, 1) := by decide +kernel
theorem dX5_carryOutText_28 : decode cX5_carryOutText 28 = .ok (.invokevirtual 231, 3) := by decide +kernel
theorem dX5_carryOutText_31 : decode cX5_carryOutText 31 = .ok (.bipush 117, 2) := by decide +kernel
theorem dX5_carryOutText_33 : decode cX5_carryOutText 33 = .ok (.if_icmp .ne 7, 3) := by decide +kernel
theorem dX5_carryOutText_36 : decode cX5_carryOutText 36 = .ok (.iconst 1, 1) := by decide +kernel
theorem dX5_carryOutText_37 : decode cX5_carryOutText 37 = .ok (.goto 4, 3) := by decide +kernel
theorem dX5_carryOutText_40 : decode cX5_carryOutText 40 = .ok (.iconst 0, 1) := by decide +kernel
theorem dX5_carryOutText_41 : decode cX5_carryOutText 41 = .ok (.istore 4, 2) := by decide +kernel
theorem dX5_carryOutText_43 : decode cX5_carryOutText 43 = .ok (.aload_n 0, 1) := by decide +kernel
theorem dX5_carryOutText_44 : decode cX5_carryOutText 44 = .ok (.getfield 26, 3) := by decide +kernel
theorem dX5_carryOutText_47 : decode cX5_carryOutText 47 = .ok (.iload_n 2, 1) := by decide +kernel
theorem dX5_carryOutText_48 : decode cX5_carryOutText 48 = .ok (.iconst 1, 1) := by decide +kernel
theorem dX5_carryOutText_49 : decode cX5_carryOutText 49 = .ok (.iadd, 1) := by decide +kernel
theorem dX5_carryOutText_50 : decode cX5_carryOutText 50 = .ok (.invokevirtual 261, 3) := by decide +kernel
theorem dX5_carryOutText_53 : decode cX5_carryOutText 53 = .ok (.istore 5, 2) := by decide +kernel
theorem dX5_carryOutText_55 : decode cX5_carryOutText 55 = .ok (.aload_n 0, 1) := by decide +kernel
theorem dX5_carryOutText_56 : decode cX5_carryOutText 56 = .ok (.getfield 26, 3) := by decide +kernel
theorem dX5_carryOutText_59 : decode cX5_carryOutText 59 = .ok (.iload 5, 2) := by decide +kernel
theorem dX5_carryOutText_61 : decode cX5_carryOutText 61 = .ok (.iconst 1, 1) := by decide +kernel
theorem dX5_carryOutText_62 : decode cX5_carryOutText 62 = .ok (.iadd, 1) := by decide +kernel
theorem dX5_carryOutText_63 : decode cX5_carryOutText 63 = .ok (.invokevirtual 261, 3) := by decide +kernel
theorem dX5_carryOutText_66 : decode cX5_carryOutText 66 = .ok (.istore 6, 2) := by decide +kernel
theorem dX5_carryOutText_68 : decode cX5_carryOutText 68 = .ok (.aload_n 0, 1) := by decide +kernel
theorem dX5_carryOutText_69 : decode cX5_carryOutText 69 = .ok (.getfield 26, 3) := by decide +kernel
theorem dX5_carryOutText_72 : decode cX5_carryOutText 72 = .ok (.iload_n 2, 1) := by decide +kernel
theorem dX5_carryOutText_73 : decode cX5_carryOutText 73 = .ok (.iconst 1, 1) := by decide +kernel
theorem dX5_carryOutText_74 : decode cX5_carryOutText 74 = .ok (.iadd, 1) := by decide +kernel
theorem dX5_carryOutText_75 : decode cX5_carryOutText 75 = .ok (.iload 5, 2) := by decide +kernel
theorem dX5_carryOutText_77 : decode cX5_carryOutText 77 = .ok (.invokevirtual 264, 3) := by decide +kernel
theorem dX5_carryOutText_80 : decode cX5_carryOutText 80 = .ok (.istore 7, 2) := by decide +kernel
theorem dX5_carryOutText_82 : decode cX5_carryOutText 82 = .ok (.aload_n 0, 1) := by decide +kernel
theorem dX5_carryOutText_83 : decode cX5_carryOutText 83 = .ok (.getfield 26, 3) := by decide +kernel
theorem dX5_carryOutText_86 : decode cX5_carryOutText 86 = .ok (.iload 5, 2) := by decide +kernel
theorem dX5_carryOutText_88 : decode cX5_carryOutText 88 = .ok (.iconst 1, 1) := by decide +kernel
theorem dX5_carryOutText_89 : decode cX5_carryOutText 89 = .ok (.iadd, 1) := by decide +kernel
theorem dX5_carryOutText_90 : decode cX5_carryOutText 90 = .ok (.iload 6, 2) := by decide +kernel
theorem dX5_carryOutText_92 : decode cX5_carryOutText 92 = .ok (.invokevirtual 264, 3) := by decide +kernel
theorem dX5_carryOutText_95 : decode cX5_carryOutText 95 = .ok (.istore 8, 2) := by decide +kernel
theorem dX5_carryOutText_97 : decode cX5_carryOutText 97 = .ok (.iload 7, 2) := by decide +kernel
theorem dX5_carryOutText_99 : decode cX5_carryOutText 99 = .ok (.aload_n 0, 1) := by decide +kernel
theorem dX5_carryOutText_100 : decode cX5_carryOutText 100 = .ok (.getfield 12, 3) := by decide +kernel
theorem dX5_carryOutText_103 : decode cX5_carryOutText 103 = .ok (.getfield 53, 3) := by decide +kernel
theorem dX5_carryOutText_106 : decode cX5_carryOutText 106 = .ok (.invokevirtual 212, 3) := by decide +kernel
theorem dX5_carryOutText_109 : decode cX5_carryOutText 109 = .ok (.if_icmp .ge 50, 3) := by decide +kernel
theorem dX5_carryOutText_112 : decode cX5_carryOutText 112 = .ok (.aload_n 0, 1) := by decide +kernel
theorem dX5_carryOutText_113 : decode cX5_carryOutText 113 = .ok (.getfield 12, 3) := by decide +kernel
theorem dX5_carryOutText_116 : decode cX5_carryOutText 116 = .ok (.iload 7, 2) := by decide +kernel
theorem dX5_carryOutText_118 : decode cX5_carryOutText 118 = .ok (.iload 8, 2) := by decide +kernel
theorem dX5_carryOutText_120 : decode cX5_carryOutText 120 = .ok (.iload 4, 2) := by decide +kernel
theorem dX5_carryOutText_122 : decode cX5_carryOutText 122 = .ok (.invokevirtual 252, 3) := by decide +kernel
theorem dX5_carryOutText_125 : decode cX5_carryOutText 125 = .ok (.ifCond .ne 6, 3) := by decide +kernel
theorem dX5_carryOutText_128 : decode cX5_carryOutText 128 = .ok (.goto 31, 3) := by decide +kernel
theorem dX5_carryOutText_131 : decode cX5_carryOutText 131 = .ok (.aload_n 0, 1) := by decide +kernel
theorem dX5_carryOutText_132 : decode cX5_carryOutText 132 = .ok (.getfield 12, 3) := by decide +kernel
theorem dX5_carryOutText_135 : decode cX5_carryOutText 135 = .ok (.iload 7, 2) := by decide +kernel
theorem dX5_carryOutText_137 : decode cX5_carryOutText 137 = .ok (.iload 8, 2) := by decide +kernel
theorem dX5_carryOutText_139 : decode cX5_carryOutText 139 = .ok (.iload 4, 2) := by decide +kernel
theorem dX5_carryOutText_141 : decode cX5_carryOutText 141 = .ok (.invokevirtual 258, 3) := by decide +kernel
theorem dX5_carryOutText_144 : decode cX5_carryOutText 144 = .ok (.pop, 1) := by decide +kernel
theorem dX5_carryOutText_145 : decode cX5_carryOutText 145 = .ok (.iinc 1 1, 3) := by decide +kernel
theorem dX5_carryOutText_148 : decode cX5_carryOutText 148 = .ok (.iload 6, 2) := by decide +kernel
theorem dX5_carryOutText_150 : decode cX5_carryOutText 150 = .ok (.iconst 1, 1) := by decide +kernel
theorem dX5_carryOutText_151 : decode cX5_carryOutText 151 = .ok (.iadd, 1) := by decide +kernel
theorem dX5_carryOutText_152 : decode cX5_carryOutText 152 = .ok (.istore_n 2, 1) := by decide +kernel
theorem dX5_carryOutText_153 : decode cX5_carryOutText 153 = .ok (.iinc 3 1, 3) := by decide +kernel
theorem dX5_carryOutText_156 : decode cX5_carryOutText 156 = .ok (.goto (-150), 3) := by decide +kernel
theorem dX5_carryOutText_159 : decode cX5_carryOutText 159 = .ok (.iload_n 1, 1) := by decide +kernel
theorem dX5_carryOutText_160 : decode cX5_carryOutText 160 = .ok (.ireturn, 1) := by decide +kernel
theorem dX5_mix_0 : decode cX5_mix 0 = .ok (.ldc2_w 267, 3) := by decide +kernel
theorem dX5_mix_3 : decode cX5_mix 3 = .ok (.lload_n 0, 1) := by decide +kernel
theorem dX5_mix_4 : decode cX5_mix 4 = .ok (.lmul, 1) := by decide +kernel
theorem dX5_mix_5 : decode cX5_mix 5 = .ok (.lload_n 2, 1) := by decide +kernel
theorem dX5_mix_6 : decode cX5_mix 6 = .ok (.ladd, 1) := by decide +kernel
theorem dX5_mix_7 : decode cX5_mix 7 = .ok (.lreturn, 1) := by decide +kernel
set_option maxRecDepth 20000 in
theorem ggX5_mixMandate_X0_mandateProperty : GoodIn wsX5_mixMandate wsX0_mandateProperty := goodIn_r _ [6, 7, 8, 9, 10, 11, 12, 13, 14, 15, 16, 17, 18, 19, 20, 21, 22, 23, 24, 25, 26, 27, 28, 29, 30, 31, 32, 33, 34, 35, 36, 37, 38, 39, 40, 41, 42, 43, 44, 45, 46, 47, 48, 49, 50, 51, 52, 53, 54, 55, 56, 57, 58, 59, 60, 61, 62, 63, 5, 64, 65, 66, 127, 128, 129, 130, 131, 132, 133, 134, 135, 136, 137, 138, 139, 140, 141, 142, 143] (by decide +kernel) (by decide +kernel)
set_option maxRecDepth 20000 in
theorem gX5_mixMandate_X0_mandateProperty : GoodIn wsX5_mixMandate (wsV RX5 162 RX0 yX0_mandateProperty wsX0_mandateProperty) := goodIn_app (goodIn_of _ (by decide +kernel)) ggX5_mixMandate_X0_mandateProperty
set_option maxRecDepth 20000 in
theorem ggX5_mixMandate_X5_mix : GoodIn wsX5_mixMandate wsX5_mix := goodIn_r _ [70, 71] (by decide +kernel) (by decide +kernel)
set_option maxRecDepth 20000 in
theorem gX5_mixMandate_X5_mix : GoodIn wsX5_mixMandate (va_wsS RX5 202 yX5_mix wsX5_mix) := goodIn_app (goodIn_of _ (by decide +kernel)) ggX5_mixMandate_X5_mix
set_option maxRecDepth 20000 in
theorem ggX5_mixMandate_X2_refusal : GoodIn wsX5_mixMandate wsX2_refusal := goodIn_r _ [75, 13, 57, 23, 24, 11, 25, 26, 27, 28, 29, 14, 15, 16, 17, 18, 19, 20, 21, 76, 77, 78, 79, 80, 81, 82, 83, 139, 140, 141, 142, 143] (by decide +kernel) (by decide +kernel)
set_option maxRecDepth 20000 in
theorem gX5_mixMandate_X2_refusal : GoodIn wsX5_mixMandate (wsV RX5 177 RX2 yX2_refusal wsX2_refusal) := goodIn_app (goodIn_of _ (by decide +kernel)) ggX5_mixMandate_X2_refusal
set_option maxRecDepth 20000 in
theorem ggX5_mixMandate_X2_greatestAmount : GoodIn wsX5_mixMandate wsX2_greatestAmount := goodIn_r _ [87, 13, 88, 89, 51, 90, 49, 50, 52, 57, 23, 24, 11, 25, 26, 27, 28, 29, 14, 15, 16, 17, 18, 19, 20, 21, 91, 92, 93, 94, 76, 77, 78, 79, 80, 81, 82, 83, 139, 140, 141, 142, 143] (by decide +kernel) (by decide +kernel)
set_option maxRecDepth 20000 in
theorem gX5_mixMandate_X2_greatestAmount : GoodIn wsX5_mixMandate (wsV RX5 180 RX2 yX2_greatestAmount wsX2_greatestAmount) := goodIn_app (goodIn_of _ (by decide +kernel)) ggX5_mixMandate_X2_greatestAmount
set_option maxRecDepth 20000 in
theorem ggX5_mixMandate_X2_wouldLapse : GoodIn wsX5_mixMandate wsX2_wouldLapse := goodIn_r _ [56, 13, 57, 23, 24, 11, 25, 26, 27, 28, 29, 14, 15, 16, 17, 18, 19, 20, 21, 58, 59, 60, 139, 140, 141, 142, 143] (by decide +kernel) (by decide +kernel)
set_option maxRecDepth 20000 in
theorem gX5_mixMandate_X2_wouldLapse : GoodIn wsX5_mixMandate (wsV RX5 184 RX2 yX2_wouldLapse wsX2_wouldLapse) := goodIn_app (goodIn_of _ (by decide +kernel)) ggX5_mixMandate_X2_wouldLapse
set_option maxRecDepth 20000 in
theorem ggX5_mixMandate_X2_narrowestOfChain : GoodIn wsX5_mixMandate wsX2_narrowestOfChain := goodIn_r _ [79, 13, 80, 81, 82, 11, 83, 14, 15, 16, 17, 18, 19, 20, 21, 139, 140, 141, 142, 143] (by decide +kernel) (by decide +kernel)
set_option maxRecDepth 20000 in
theorem gX5_mixMandate_X2_narrowestOfChain : GoodIn wsX5_mixMandate (wsV RX5 187 RX2 yX2_narrowestOfChain wsX2_narrowestOfChain) := goodIn_app (goodIn_of _ (by decide +kernel)) ggX5_mixMandate_X2_narrowestOfChain
set_option maxRecDepth 20000 in
theorem ggX5_mixMandate_X0_daysUntilLapse : GoodIn wsX5_mixMandate wsX0_daysUntilLapse := goodIn_r _ [100, 7, 65, 101, 89, 51, 90, 22, 23, 24, 11, 25, 13, 26, 27, 28, 29, 14, 15, 16, 17, 18, 19, 20, 21, 102, 35, 36, 37, 103, 104, 105, 5, 106, 66, 107, 59, 60, 108, 109, 110, 111, 112, 113, 114, 50, 52, 127, 128, 129, 130, 131, 132, 133, 134, 135, 136, 137, 138, 140, 141, 142, 143, 139] (by decide +kernel) (by decide +kernel)
set_option maxRecDepth 20000 in
theorem gX5_mixMandate_X0_daysUntilLapse : GoodIn wsX5_mixMandate (wsV RX5 190 RX0 yX0_daysUntilLapse wsX0_daysUntilLapse) := goodIn_app (goodIn_of _ (by decide +kernel)) ggX5_mixMandate_X0_daysUntilLapse
set_option maxRecDepth 20000 in
theorem ggX5_mixMandate_X2_shareUsed : GoodIn wsX5_mixMandate wsX2_shareUsed := goodIn_r _ [118, 13, 14, 15, 16, 17, 18, 19, 20, 21, 139, 140, 141, 142, 143] (by decide +kernel) (by decide +kernel)
set_option maxRecDepth 20000 in
theorem gX5_mixMandate_X2_shareUsed : GoodIn wsX5_mixMandate (wsV RX5 193 RX2 yX2_shareUsed wsX2_shareUsed) := goodIn_app (goodIn_of _ (by decide +kernel)) ggX5_mixMandate_X2_shareUsed
set_option maxRecDepth 20000 in
theorem ggX5_mixMandate_X5_bitsOf : GoodIn wsX5_mixMandate wsX5_bitsOf := goodIn_r _ [121, 122, 123] (by decide +kernel) (by decide +kernel)
set_option maxRecDepth 20000 in
theorem gX5_mixMandate_X5_bitsOf : GoodIn wsX5_mixMandate (va_wsS RX5 269 yX5_bitsOf wsX5_bitsOf) := goodIn_app (goodIn_of _ (by decide +kernel)) ggX5_mixMandate_X5_bitsOf
theorem dX5_mixMandate_0 : decode cX5_mixMandate 0 = .ok (.lload_n 1, 1) := by decide +kernel
theorem dX5_mixMandate_1 : decode cX5_mixMandate 1 = .ok (.lstore 4, 2) := by decide +kernel
theorem dX5_mixMandate_3 : decode cX5_mixMandate 3 = .ok (.iconst 0, 1) := by decide +kernel
theorem dX5_mixMandate_4 : decode cX5_mixMandate 4 = .ok (.istore 6, 2) := by decide +kernel
theorem dX5_mixMandate_6 : decode cX5_mixMandate 6 = .ok (.iload 6, 2) := by decide +kernel
theorem dX5_mixMandate_8 : decode cX5_mixMandate 8 = .ok (.bipush 12, 2) := by decide +kernel
theorem dX5_mixMandate_10 : decode cX5_mixMandate 10 = .ok (.if_icmp .ge 27, 3) := by decide +kernel
theorem dX5_mixMandate_13 : decode cX5_mixMandate 13 = .ok (.lload 4, 2) := by decide +kernel
theorem dX5_mixMandate_15 : decode cX5_mixMandate 15 = .ok (.aload_n 0, 1) := by decide +kernel
theorem dX5_mixMandate_16 : decode cX5_mixMandate 16 = .ok (.getfield 12, 3) := by decide +kernel
theorem dX5_mixMandate_19 : decode cX5_mixMandate 19 = .ok (.iload_n 3, 1) := by decide +kernel
theorem dX5_mixMandate_20 : decode cX5_mixMandate 20 = .ok (.iload 6, 2) := by decide +kernel
theorem dX5_mixMandate_22 : decode cX5_mixMandate 22 = .ok (.invokevirtual 162, 3) := by decide +kernel
theorem dX5_mixMandate_25 : decode cX5_mixMandate 25 = .ok (.i2l, 1) := by decide +kernel
theorem dX5_mixMandate_26 : decode cX5_mixMandate 26 = .ok (.invokestatic 202, 3) := by decide +kernel
theorem dX5_mixMandate_29 : decode cX5_mixMandate 29 = .ok (.lstore 4, 2) := by decide +kernel
theorem dX5_mixMandate_31 : decode cX5_mixMandate 31 = .ok (.iinc 6 1, 3) := by decide +kernel
theorem dX5_mixMandate_34 : decode cX5_mixMandate 34 = .ok (.goto (-28), 3) := by decide +kernel
theorem dX5_mixMandate_37 : decode cX5_mixMandate 37 = .ok (.lload 4, 2) := by decide +kernel
theorem dX5_mixMandate_39 : decode cX5_mixMandate 39 = .ok (.aload_n 0, 1) := by decide +kernel
theorem dX5_mixMandate_40 : decode cX5_mixMandate 40 = .ok (.getfield 12, 3) := by decide +kernel
theorem dX5_mixMandate_43 : decode cX5_mixMandate 43 = .ok (.getfield 53, 3) := by decide +kernel
theorem dX5_mixMandate_46 : decode cX5_mixMandate 46 = .ok (.iload_n 3, 1) := by decide +kernel
theorem dX5_mixMandate_47 : decode cX5_mixMandate 47 = .ok (.bipush 100, 2) := by decide +kernel
theorem dX5_mixMandate_49 : decode cX5_mixMandate 49 = .ok (.invokevirtual 177, 3) := by decide +kernel
theorem dX5_mixMandate_52 : decode cX5_mixMandate 52 = .ok (.i2l, 1) := by decide +kernel
theorem dX5_mixMandate_53 : decode cX5_mixMandate 53 = .ok (.invokestatic 202, 3) := by decide +kernel
theorem dX5_mixMandate_56 : decode cX5_mixMandate 56 = .ok (.lstore 4, 2) := by decide +kernel
theorem dX5_mixMandate_58 : decode cX5_mixMandate 58 = .ok (.lload 4, 2) := by decide +kernel
theorem dX5_mixMandate_60 : decode cX5_mixMandate 60 = .ok (.aload_n 0, 1) := by decide +kernel
theorem dX5_mixMandate_61 : decode cX5_mixMandate 61 = .ok (.getfield 12, 3) := by decide +kernel
theorem dX5_mixMandate_64 : decode cX5_mixMandate 64 = .ok (.getfield 53, 3) := by decide +kernel
theorem dX5_mixMandate_67 : decode cX5_mixMandate 67 = .ok (.iload_n 3, 1) := by decide +kernel
theorem dX5_mixMandate_68 : decode cX5_mixMandate 68 = .ok (.iconst 0, 1) := by decide +kernel
theorem dX5_mixMandate_69 : decode cX5_mixMandate 69 = .ok (.invokevirtual 180, 3) := by decide +kernel
theorem dX5_mixMandate_72 : decode cX5_mixMandate 72 = .ok (.i2l, 1) := by decide +kernel
theorem dX5_mixMandate_73 : decode cX5_mixMandate 73 = .ok (.invokestatic 202, 3) := by decide +kernel
theorem dX5_mixMandate_76 : decode cX5_mixMandate 76 = .ok (.lstore 4, 2) := by decide +kernel
theorem dX5_mixMandate_78 : decode cX5_mixMandate 78 = .ok (.lload 4, 2) := by decide +kernel
theorem dX5_mixMandate_80 : decode cX5_mixMandate 80 = .ok (.aload_n 0, 1) := by decide +kernel
theorem dX5_mixMandate_81 : decode cX5_mixMandate 81 = .ok (.getfield 12, 3) := by decide +kernel
theorem dX5_mixMandate_84 : decode cX5_mixMandate 84 = .ok (.getfield 53, 3) := by decide +kernel
theorem dX5_mixMandate_87 : decode cX5_mixMandate 87 = .ok (.iload_n 3, 1) := by decide +kernel
theorem dX5_mixMandate_88 : decode cX5_mixMandate 88 = .ok (.iconst 1, 1) := by decide +kernel
theorem dX5_mixMandate_89 : decode cX5_mixMandate 89 = .ok (.invokevirtual 180, 3) := by decide +kernel
theorem dX5_mixMandate_92 : decode cX5_mixMandate 92 = .ok (.i2l, 1) := by decide +kernel
theorem dX5_mixMandate_93 : decode cX5_mixMandate 93 = .ok (.invokestatic 202, 3) := by decide +kernel
theorem dX5_mixMandate_96 : decode cX5_mixMandate 96 = .ok (.lstore 4, 2) := by decide +kernel
theorem dX5_mixMandate_98 : decode cX5_mixMandate 98 = .ok (.lload 4, 2) := by decide +kernel
theorem dX5_mixMandate_100 : decode cX5_mixMandate 100 = .ok (.aload_n 0, 1) := by decide +kernel
theorem dX5_mixMandate_101 : decode cX5_mixMandate 101 = .ok (.getfield 12, 3) := by decide +kernel
theorem dX5_mixMandate_104 : decode cX5_mixMandate 104 = .ok (.getfield 53, 3) := by decide +kernel
theorem dX5_mixMandate_107 : decode cX5_mixMandate 107 = .ok (.iload_n 3, 1) := by decide +kernel
theorem dX5_mixMandate_108 : decode cX5_mixMandate 108 = .ok (.invokevirtual 184, 3) := by decide +kernel
theorem dX5_mixMandate_111 : decode cX5_mixMandate 111 = .ok (.i2l, 1) := by decide +kernel
theorem dX5_mixMandate_112 : decode cX5_mixMandate 112 = .ok (.invokestatic 202, 3) := by decide +kernel
theorem dX5_mixMandate_115 : decode cX5_mixMandate 115 = .ok (.lstore 4, 2) := by decide +kernel
theorem dX5_mixMandate_117 : decode cX5_mixMandate 117 = .ok (.lload 4, 2) := by decide +kernel
theorem dX5_mixMandate_119 : decode cX5_mixMandate 119 = .ok (.aload_n 0, 1) := by decide +kernel
theorem dX5_mixMandate_120 : decode cX5_mixMandate 120 = .ok (.getfield 12, 3) := by decide +kernel
theorem dX5_mixMandate_123 : decode cX5_mixMandate 123 = .ok (.getfield 53, 3) := by decide +kernel
theorem dX5_mixMandate_126 : decode cX5_mixMandate 126 = .ok (.iload_n 3, 1) := by decide +kernel
theorem dX5_mixMandate_127 : decode cX5_mixMandate 127 = .ok (.invokevirtual 187, 3) := by decide +kernel
theorem dX5_mixMandate_130 : decode cX5_mixMandate 130 = .ok (.i2l, 1) := by decide +kernel
theorem dX5_mixMandate_131 : decode cX5_mixMandate 131 = .ok (.invokestatic 202, 3) := by decide +kernel
theorem dX5_mixMandate_134 : decode cX5_mixMandate 134 = .ok (.lstore 4, 2) := by decide +kernel
theorem dX5_mixMandate_136 : decode cX5_mixMandate 136 = .ok (.lload 4, 2) := by decide +kernel
theorem dX5_mixMandate_138 : decode cX5_mixMandate 138 = .ok (.aload_n 0, 1) := by decide +kernel
theorem dX5_mixMandate_139 : decode cX5_mixMandate 139 = .ok (.getfield 12, 3) := by decide +kernel
theorem dX5_mixMandate_142 : decode cX5_mixMandate 142 = .ok (.iload_n 3, 1) := by decide +kernel
theorem dX5_mixMandate_143 : decode cX5_mixMandate 143 = .ok (.invokevirtual 190, 3) := by decide +kernel
theorem dX5_mixMandate_146 : decode cX5_mixMandate 146 = .ok (.i2l, 1) := by decide +kernel
theorem dX5_mixMandate_147 : decode cX5_mixMandate 147 = .ok (.invokestatic 202, 3) := by decide +kernel
theorem dX5_mixMandate_150 : decode cX5_mixMandate 150 = .ok (.lstore 4, 2) := by decide +kernel
theorem dX5_mixMandate_152 : decode cX5_mixMandate 152 = .ok (.lload 4, 2) := by decide +kernel
theorem dX5_mixMandate_154 : decode cX5_mixMandate 154 = .ok (.aload_n 0, 1) := by decide +kernel
theorem dX5_mixMandate_155 : decode cX5_mixMandate 155 = .ok (.getfield 12, 3) := by decide +kernel
theorem dX5_mixMandate_158 : decode cX5_mixMandate 158 = .ok (.getfield 53, 3) := by decide +kernel
theorem dX5_mixMandate_161 : decode cX5_mixMandate 161 = .ok (.iload_n 3, 1) := by decide +kernel
theorem dX5_mixMandate_162 : decode cX5_mixMandate 162 = .ok (.invokevirtual 193, 3) := by decide +kernel
theorem dX5_mixMandate_165 : decode cX5_mixMandate 165 = .ok (.invokestatic 269, 3) := by decide +kernel
theorem dX5_mixMandate_168 : decode cX5_mixMandate 168 = .ok (.invokestatic 202, 3) := by decide +kernel
theorem dX5_mixMandate_171 : decode cX5_mixMandate 171 = .ok (.lreturn, 1) := by decide +kernel
theorem dX5_bitsOf_0 : decode cX5_bitsOf 0 = .ok (.dload_n 0, 1) := by decide +kernel
theorem dX5_bitsOf_1 : decode cX5_bitsOf 1 = .ok (.dconst 0, 1) := by decide +kernel
theorem dX5_bitsOf_2 : decode cX5_bitsOf 2 = .ok (.dcmp .g, 1) := by decide +kernel
theorem dX5_bitsOf_3 : decode cX5_bitsOf 3 = .ok (.ifCond .gt 5, 3) := by decide +kernel
theorem dX5_bitsOf_6 : decode cX5_bitsOf 6 = .ok (.lconst 0, 1) := by decide +kernel
theorem dX5_bitsOf_7 : decode cX5_bitsOf 7 = .ok (.lreturn, 1) := by decide +kernel
theorem dX5_bitsOf_8 : decode cX5_bitsOf 8 = .ok (.dload_n 0, 1) := by decide +kernel
theorem dX5_bitsOf_9 : decode cX5_bitsOf 9 = .ok (.dstore_n 2, 1) := by decide +kernel
theorem dX5_bitsOf_10 : decode cX5_bitsOf 10 = .ok (.iconst 0, 1) := by decide +kernel
theorem dX5_bitsOf_11 : decode cX5_bitsOf 11 = .ok (.istore 4, 2) := by decide +kernel
theorem dX5_bitsOf_13 : decode cX5_bitsOf 13 = .ok (.iconst 0, 1) := by decide +kernel
theorem dX5_bitsOf_14 : decode cX5_bitsOf 14 = .ok (.istore 5, 2) := by decide +kernel
theorem dX5_bitsOf_16 : decode cX5_bitsOf 16 = .ok (.iload 5, 2) := by decide +kernel
theorem dX5_bitsOf_18 : decode cX5_bitsOf 18 = .ok (.bipush 64, 2) := by decide +kernel
theorem dX5_bitsOf_20 : decode cX5_bitsOf 20 = .ok (.if_icmp .ge 26, 3) := by decide +kernel
theorem dX5_bitsOf_23 : decode cX5_bitsOf 23 = .ok (.dload_n 2, 1) := by decide +kernel
theorem dX5_bitsOf_24 : decode cX5_bitsOf 24 = .ok (.ldc2_w 273, 3) := by decide +kernel
theorem dX5_bitsOf_27 : decode cX5_bitsOf 27 = .ok (.dcmp .l, 1) := by decide +kernel
theorem dX5_bitsOf_28 : decode cX5_bitsOf 28 = .ok (.ifCond .lt 18, 3) := by decide +kernel
theorem dX5_bitsOf_31 : decode cX5_bitsOf 31 = .ok (.dload_n 2, 1) := by decide +kernel
theorem dX5_bitsOf_32 : decode cX5_bitsOf 32 = .ok (.ldc2_w 273, 3) := by decide +kernel
theorem dX5_bitsOf_35 : decode cX5_bitsOf 35 = .ok (.ddiv, 1) := by decide +kernel
theorem dX5_bitsOf_36 : decode cX5_bitsOf 36 = .ok (.dstore_n 2, 1) := by decide +kernel
theorem dX5_bitsOf_37 : decode cX5_bitsOf 37 = .ok (.iinc 4 1, 3) := by decide +kernel
theorem dX5_bitsOf_40 : decode cX5_bitsOf 40 = .ok (.iinc 5 1, 3) := by decide +kernel
theorem dX5_bitsOf_43 : decode cX5_bitsOf 43 = .ok (.goto (-27), 3) := by decide +kernel
theorem dX5_bitsOf_46 : decode cX5_bitsOf 46 = .ok (.iconst 0, 1) := by decide +kernel
theorem dX5_bitsOf_47 : decode cX5_bitsOf 47 = .ok (.istore 5, 2) := by decide +kernel
theorem dX5_bitsOf_49 : decode cX5_bitsOf 49 = .ok (.iload 5, 2) := by decide +kernel
theorem dX5_bitsOf_51 : decode cX5_bitsOf 51 = .ok (.bipush 64, 2) := by decide +kernel
theorem dX5_bitsOf_53 : decode cX5_bitsOf 53 = .ok (.if_icmp .ge 24, 3) := by decide +kernel
theorem dX5_bitsOf_56 : decode cX5_bitsOf 56 = .ok (.dload_n 2, 1) := by decide +kernel
theorem dX5_bitsOf_57 : decode cX5_bitsOf 57 = .ok (.dconst 1, 1) := by decide +kernel
theorem dX5_bitsOf_58 : decode cX5_bitsOf 58 = .ok (.dcmp .g, 1) := by decide +kernel
theorem dX5_bitsOf_59 : decode cX5_bitsOf 59 = .ok (.ifCond .ge 18, 3) := by decide +kernel
theorem dX5_bitsOf_62 : decode cX5_bitsOf 62 = .ok (.dload_n 2, 1) := by decide +kernel
theorem dX5_bitsOf_63 : decode cX5_bitsOf 63 = .ok (.ldc2_w 273, 3) := by decide +kernel
theorem dX5_bitsOf_66 : decode cX5_bitsOf 66 = .ok (.dmul, 1) := by decide +kernel
theorem dX5_bitsOf_67 : decode cX5_bitsOf 67 = .ok (.dstore_n 2, 1) := by decide +kernel
theorem dX5_bitsOf_68 : decode cX5_bitsOf 68 = .ok (.iinc 4 (-1), 3) := by decide +kernel
theorem dX5_bitsOf_71 : decode cX5_bitsOf 71 = .ok (.iinc 5 1, 3) := by decide +kernel
theorem dX5_bitsOf_74 : decode cX5_bitsOf 74 = .ok (.goto (-25), 3) := by decide +kernel
theorem dX5_bitsOf_77 : decode cX5_bitsOf 77 = .ok (.dload_n 2, 1) := by decide +kernel
theorem dX5_bitsOf_78 : decode cX5_bitsOf 78 = .ok (.dconst 1, 1) := by decide +kernel
theorem dX5_bitsOf_79 : decode cX5_bitsOf 79 = .ok (.dsub, 1) := by decide +kernel
theorem dX5_bitsOf_80 : decode cX5_bitsOf 80 = .ok (.ldc2_w 275, 3) := by decide +kernel
theorem dX5_bitsOf_83 : decode cX5_bitsOf 83 = .ok (.dmul, 1) := by decide +kernel
theorem dX5_bitsOf_84 : decode cX5_bitsOf 84 = .ok (.d2l, 1) := by decide +kernel
theorem dX5_bitsOf_85 : decode cX5_bitsOf 85 = .ok (.lstore 5, 2) := by decide +kernel
theorem dX5_bitsOf_87 : decode cX5_bitsOf 87 = .ok (.iload 4, 2) := by decide +kernel
theorem dX5_bitsOf_89 : decode cX5_bitsOf 89 = .ok (.sipush 1023, 3) := by decide +kernel
theorem dX5_bitsOf_92 : decode cX5_bitsOf 92 = .ok (.iadd, 1) := by decide +kernel
theorem dX5_bitsOf_93 : decode cX5_bitsOf 93 = .ok (.i2l, 1) := by decide +kernel
theorem dX5_bitsOf_94 : decode cX5_bitsOf 94 = .ok (.bipush 52, 2) := by decide +kernel
theorem dX5_bitsOf_96 : decode cX5_bitsOf 96 = .ok (.lshl, 1) := by decide +kernel
theorem dX5_bitsOf_97 : decode cX5_bitsOf 97 = .ok (.lload 5, 2) := by decide +kernel
theorem dX5_bitsOf_99 : decode cX5_bitsOf 99 = .ok (.ladd, 1) := by decide +kernel
