set_option maxRecDepth 20000 in
theorem ggX0_init_X2_init : GoodIn wsX0_init wsX2_init := goodIn_r _ [11, 12, 2, 3, 13, 14, 15, 16, 17, 18, 19, 22, 23, 24, 25, 26] (by decide +kernel) (by decide +kernel)
set_option maxRecDepth 20000 in
theorem gX0_init_X2_init : GoodIn wsX0_init (wsX2_init) := ggX0_init_X2_init
theorem dX0_init_0 : decode cX0_init 0 = .ok (.aload_n 0, 1) := by decide +kernel
theorem dX0_init_1 : decode cX0_init 1 = .ok (.invokespecial 3, 3) := by decide +kernel
theorem dX0_init_4 : decode cX0_init 4 = .ok (.aload_n 0, 1) := by decide +kernel
theorem dX0_init_5 : decode cX0_init 5 = .ok (.iconst 4, 1) := by decide +kernel
theorem dX0_init_6 : decode cX0_init 6 = .ok (.anewarray 9, 3) := by decide +kernel
theorem dX0_init_9 : decode cX0_init 9 = .ok (.putfield 11, 3) := by decide +kernel
theorem dX0_init_12 : decode cX0_init 12 = .ok (.iconst 0, 1) := by decide +kernel
theorem dX0_init_13 : decode cX0_init 13 = .ok (.istore_n 1, 1) := by decide +kernel
theorem dX0_init_14 : decode cX0_init 14 = .ok (.iload_n 1, 1) := by decide +kernel
theorem dX0_init_15 : decode cX0_init 15 = .ok (.iconst 4, 1) := by decide +kernel
theorem dX0_init_16 : decode cX0_init 16 = .ok (.if_icmp .ge 22, 3) := by decide +kernel
theorem dX0_init_19 : decode cX0_init 19 = .ok (.aload_n 0, 1) := by decide +kernel
theorem dX0_init_20 : decode cX0_init 20 = .ok (.getfield 11, 3) := by decide +kernel
theorem dX0_init_23 : decode cX0_init 23 = .ok (.iload_n 1, 1) := by decide +kernel
theorem dX0_init_24 : decode cX0_init 24 = .ok (.new 9, 3) := by decide +kernel
theorem dX0_init_27 : decode cX0_init 27 = .ok (.dup, 1) := by decide +kernel
theorem dX0_init_28 : decode cX0_init 28 = .ok (.invokespecial 17, 3) := by decide +kernel
theorem dX0_init_31 : decode cX0_init 31 = .ok (.aastore, 1) := by decide +kernel
theorem dX0_init_32 : decode cX0_init 32 = .ok (.iinc 1 1, 3) := by decide +kernel
theorem dX0_init_35 : decode cX0_init 35 = .ok (.goto (-21), 3) := by decide +kernel
theorem dX0_init_38 : decode cX0_init 38 = .ok (.aload_n 0, 1) := by decide +kernel
theorem dX0_init_39 : decode cX0_init 39 = .ok (.iconst 0, 1) := by decide +kernel
theorem dX0_init_40 : decode cX0_init 40 = .ok (.putfield 18, 3) := by decide +kernel
theorem dX0_init_43 : decode cX0_init 43 = .ok (.return_, 1) := by decide +kernel
set_option maxRecDepth 20000 in
theorem ggX0_remember_X0_forgetOldest : GoodIn wsX0_remember wsX0_forgetOldest := goodIn_r _ [6, 7, 1, 22, 23] (by decide +kernel) (by decide +kernel)
set_option maxRecDepth 20000 in
theorem gX0_remember_X0_forgetOldest : GoodIn wsX0_remember (wsV RX0 22 RX0 yX0_forgetOldest wsX0_forgetOldest) := goodIn_app (goodIn_of _ (by decide +kernel)) ggX0_remember_X0_forgetOldest
set_option maxRecDepth 20000 in
theorem ggX0_remember_X0_stateAt : GoodIn wsX0_remember wsX0_stateAt := goodIn_r _ [11, 7, 22, 23] (by decide +kernel) (by decide +kernel)
set_option maxRecDepth 20000 in
theorem gX0_remember_X0_stateAt : GoodIn wsX0_remember (wsV RX0 25 RX0 yX0_stateAt wsX0_stateAt) := goodIn_app (goodIn_of _ (by decide +kernel)) ggX0_remember_X0_stateAt
set_option maxRecDepth 20000 in
theorem ggX0_remember_X2_copyFrom : GoodIn wsX0_remember wsX2_copyFrom := goodIn_r _ [16, 17, 18, 19, 20, 21, 24, 25, 26, 27, 28] (by decide +kernel) (by decide +kernel)
set_option maxRecDepth 20000 in
theorem gX0_remember_X2_copyFrom : GoodIn wsX0_remember (wsV RX0 29 RX2 yX2_copyFrom wsX2_copyFrom) := goodIn_app (goodIn_of _ (by decide +kernel)) ggX0_remember_X2_copyFrom
theorem dX0_remember_0 : decode cX0_remember 0 = .ok (.aload_n 0, 1) := by decide +kernel
theorem dX0_remember_1 : decode cX0_remember 1 = .ok (.getfield 18, 3) := by decide +kernel
theorem dX0_remember_4 : decode cX0_remember 4 = .ok (.iconst 4, 1) := by decide +kernel
theorem dX0_remember_5 : decode cX0_remember 5 = .ok (.if_icmp .lt 7, 3) := by decide +kernel
theorem dX0_remember_8 : decode cX0_remember 8 = .ok (.aload_n 0, 1) := by decide +kernel
theorem dX0_remember_9 : decode cX0_remember 9 = .ok (.invokevirtual 22, 3) := by decide +kernel
theorem dX0_remember_12 : decode cX0_remember 12 = .ok (.aload_n 0, 1) := by decide +kernel
theorem dX0_remember_13 : decode cX0_remember 13 = .ok (.aload_n 0, 1) := by decide +kernel
theorem dX0_remember_14 : decode cX0_remember 14 = .ok (.getfield 18, 3) := by decide +kernel
theorem dX0_remember_17 : decode cX0_remember 17 = .ok (.invokevirtual 25, 3) := by decide +kernel
theorem dX0_remember_20 : decode cX0_remember 20 = .ok (.astore_n 2, 1) := by decide +kernel
theorem dX0_remember_21 : decode cX0_remember 21 = .ok (.aload_n 2, 1) := by decide +kernel
theorem dX0_remember_22 : decode cX0_remember 22 = .ok (.ifnull 18, 3) := by decide +kernel
theorem dX0_remember_25 : decode cX0_remember 25 = .ok (.aload_n 2, 1) := by decide +kernel
theorem dX0_remember_26 : decode cX0_remember 26 = .ok (.aload_n 1, 1) := by decide +kernel
theorem dX0_remember_27 : decode cX0_remember 27 = .ok (.invokevirtual 29, 3) := by decide +kernel
theorem dX0_remember_30 : decode cX0_remember 30 = .ok (.aload_n 0, 1) := by decide +kernel
theorem dX0_remember_31 : decode cX0_remember 31 = .ok (.dup, 1) := by decide +kernel
theorem dX0_remember_32 : decode cX0_remember 32 = .ok (.getfield 18, 3) := by decide +kernel
theorem dX0_remember_35 : decode cX0_remember 35 = .ok (.iconst 1, 1) := by decide +kernel
theorem dX0_remember_36 : decode cX0_remember 36 = .ok (.iadd, 1) := by decide +kernel
theorem dX0_remember_37 : decode cX0_remember 37 = .ok (.putfield 18, 3) := by decide +kernel
theorem dX0_remember_40 : decode cX0_remember 40 = .ok (.return_, 1) := by decide +kernel
set_option maxRecDepth 20000 in
theorem ggX0_takeBack_X0_stateAt : GoodIn wsX0_takeBack wsX0_stateAt := goodIn_r _ [6, 7, 18, 19] (by decide +kernel) (by decide +kernel)
set_option maxRecDepth 20000 in
theorem gX0_takeBack_X0_stateAt : GoodIn wsX0_takeBack (wsV RX0 25 RX0 yX0_stateAt wsX0_stateAt) := goodIn_app (goodIn_of _ (by decide +kernel)) ggX0_takeBack_X0_stateAt
set_option maxRecDepth 20000 in
theorem ggX0_takeBack_X2_copyFrom : GoodIn wsX0_takeBack wsX2_copyFrom := goodIn_r _ [12, 13, 14, 15, 16, 17, 20, 21, 22, 23, 24] (by decide +kernel) (by decide +kernel)
set_option maxRecDepth 20000 in
theorem gX0_takeBack_X2_copyFrom : GoodIn wsX0_takeBack (wsV RX0 29 RX2 yX2_copyFrom wsX2_copyFrom) := goodIn_app (goodIn_of _ (by decide +kernel)) ggX0_takeBack_X2_copyFrom
theorem dX0_takeBack_0 : decode cX0_takeBack 0 = .ok (.aload_n 0, 1) := by decide +kernel
theorem dX0_takeBack_1 : decode cX0_takeBack 1 = .ok (.aload_n 0, 1) := by decide +kernel
theorem dX0_takeBack_2 : decode cX0_takeBack 2 = .ok (.getfield 18, 3) := by decide +kernel
theorem dX0_takeBack_5 : decode cX0_takeBack 5 = .ok (.iconst 1, 1) := by decide +kernel
theorem dX0_takeBack_6 : decode cX0_takeBack 6 = .ok (.isub, 1) := by decide +kernel
theorem dX0_takeBack_7 : decode cX0_takeBack 7 = .ok (.invokevirtual 25, 3) := by decide +kernel
theorem dX0_takeBack_10 : decode cX0_takeBack 10 = .ok (.astore_n 2, 1) := by decide +kernel
theorem dX0_takeBack_11 : decode cX0_takeBack 11 = .ok (.aload_n 2, 1) := by decide +kernel
theorem dX0_takeBack_12 : decode cX0_takeBack 12 = .ok (.ifnull 18, 3) := by decide +kernel
theorem dX0_takeBack_15 : decode cX0_takeBack 15 = .ok (.aload_n 1, 1) := by decide +kernel
theorem dX0_takeBack_16 : decode cX0_takeBack 16 = .ok (.aload_n 2, 1) := by decide +kernel
theorem dX0_takeBack_17 : decode cX0_takeBack 17 = .ok (.invokevirtual 29, 3) := by decide +kernel
theorem dX0_takeBack_20 : decode cX0_takeBack 20 = .ok (.aload_n 0, 1) := by decide +kernel
theorem dX0_takeBack_21 : decode cX0_takeBack 21 = .ok (.dup, 1) := by decide +kernel
theorem dX0_takeBack_22 : decode cX0_takeBack 22 = .ok (.getfield 18, 3) := by decide +kernel
theorem dX0_takeBack_25 : decode cX0_takeBack 25 = .ok (.iconst 1, 1) := by decide +kernel
theorem dX0_takeBack_26 : decode cX0_takeBack 26 = .ok (.isub, 1) := by decide +kernel
theorem dX0_takeBack_27 : decode cX0_takeBack 27 = .ok (.putfield 18, 3) := by decide +kernel
theorem dX0_takeBack_30 : decode cX0_takeBack 30 = .ok (.return_, 1) := by decide +kernel
theorem dX0_stateAt_0 : decode cX0_stateAt 0 = .ok (.iload_n 1, 1) := by decide +kernel
theorem dX0_stateAt_1 : decode cX0_stateAt 1 = .ok (.ifCond .lt 17, 3) := by decide +kernel
theorem dX0_stateAt_4 : decode cX0_stateAt 4 = .ok (.iload_n 1, 1) := by decide +kernel
theorem dX0_stateAt_5 : decode cX0_stateAt 5 = .ok (.iconst 4, 1) := by decide +kernel
theorem dX0_stateAt_6 : decode cX0_stateAt 6 = .ok (.if_icmp .ge 12, 3) := by decide +kernel
theorem dX0_stateAt_9 : decode cX0_stateAt 9 = .ok (.aload_n 0, 1) := by decide +kernel
theorem dX0_stateAt_10 : decode cX0_stateAt 10 = .ok (.getfield 11, 3) := by decide +kernel
theorem dX0_stateAt_13 : decode cX0_stateAt 13 = .ok (.iload_n 1, 1) := by decide +kernel
theorem dX0_stateAt_14 : decode cX0_stateAt 14 = .ok (.aaload, 1) := by decide +kernel
theorem dX0_stateAt_15 : decode cX0_stateAt 15 = .ok (.goto 4, 3) := by decide +kernel
theorem dX0_stateAt_18 : decode cX0_stateAt 18 = .ok (.aconst_null, 1) := by decide +kernel
theorem dX0_stateAt_19 : decode cX0_stateAt 19 = .ok (.areturn, 1) := by decide +kernel
theorem dX0_forgetOldest_0 : decode cX0_forgetOldest 0 = .ok (.aload_n 0, 1) := by decide +kernel
theorem dX0_forgetOldest_1 : decode cX0_forgetOldest 1 = .ok (.getfield 11, 3) := by decide +kernel
theorem dX0_forgetOldest_4 : decode cX0_forgetOldest 4 = .ok (.iconst 0, 1) := by decide +kernel
theorem dX0_forgetOldest_5 : decode cX0_forgetOldest 5 = .ok (.aaload, 1) := by decide +kernel
theorem dX0_forgetOldest_6 : decode cX0_forgetOldest 6 = .ok (.astore_n 1, 1) := by decide +kernel
theorem dX0_forgetOldest_7 : decode cX0_forgetOldest 7 = .ok (.iconst 1, 1) := by decide +kernel
theorem dX0_forgetOldest_8 : decode cX0_forgetOldest 8 = .ok (.istore_n 2, 1) := by decide +kernel
theorem dX0_forgetOldest_9 : decode cX0_forgetOldest 9 = .ok (.iload_n 2, 1) := by decide +kernel
theorem dX0_forgetOldest_10 : decode cX0_forgetOldest 10 = .ok (.iconst 4, 1) := by decide +kernel
theorem dX0_forgetOldest_11 : decode cX0_forgetOldest 11 = .ok (.if_icmp .ge 23, 3) := by decide +kernel
theorem dX0_forgetOldest_14 : decode cX0_forgetOldest 14 = .ok (.aload_n 0, 1) := by decide +kernel
theorem dX0_forgetOldest_15 : decode cX0_forgetOldest 15 = .ok (.getfield 11, 3) := by decide +kernel
theorem dX0_forgetOldest_18 : decode cX0_forgetOldest 18 = .ok (.iload_n 2, 1) := by decide +kernel
theorem dX0_forgetOldest_19 : decode cX0_forgetOldest 19 = .ok (.iconst 1, 1) := by decide +kernel
theorem dX0_forgetOldest_20 : decode cX0_forgetOldest 20 = .ok (.isub, 1) := by decide +kernel
theorem dX0_forgetOldest_21 : decode cX0_forgetOldest 21 = .ok (.aload_n 0, 1) := by decide +kernel
theorem dX0_forgetOldest_22 : decode cX0_forgetOldest 22 = .ok (.getfield 11, 3) := by decide +kernel
theorem dX0_forgetOldest_25 : decode cX0_forgetOldest 25 = .ok (.iload_n 2, 1) := by decide +kernel
theorem dX0_forgetOldest_26 : decode cX0_forgetOldest 26 = .ok (.aaload, 1) := by decide +kernel
theorem dX0_forgetOldest_27 : decode cX0_forgetOldest 27 = .ok (.aastore, 1) := by decide +kernel
theorem dX0_forgetOldest_28 : decode cX0_forgetOldest 28 = .ok (.iinc 2 1, 3) := by decide +kernel
theorem dX0_forgetOldest_31 : decode cX0_forgetOldest 31 = .ok (.goto (-22), 3) := by decide +kernel
theorem dX0_forgetOldest_34 : decode cX0_forgetOldest 34 = .ok (.aload_n 0, 1) := by decide +kernel
theorem dX0_forgetOldest_35 : decode cX0_forgetOldest 35 = .ok (.getfield 11, 3) := by decide +kernel
theorem dX0_forgetOldest_38 : decode cX0_forgetOldest 38 = .ok (.iconst 3, 1) := by decide +kernel
theorem dX0_forgetOldest_39 : decode cX0_forgetOldest 39 = .ok (.aload_n 1, 1) := by decide +kernel
theorem dX0_forgetOldest_40 : decode cX0_forgetOldest 40 = .ok (.aastore, 1) := by decide +kernel
theorem dX0_forgetOldest_41 : decode cX0_forgetOldest 41 = .ok (.aload_n 0, 1) := by decide +kernel
theorem dX0_forgetOldest_42 : decode cX0_forgetOldest 42 = .ok (.iconst 3, 1) := by decide +kernel
theorem dX0_forgetOldest_43 : decode cX0_forgetOldest 43 = .ok (.putfield 18, 3) := by decide +kernel
theorem dX0_forgetOldest_46 : decode cX0_forgetOldest 46 = .ok (.return_, 1) := by decide +kernel
set_option maxRecDepth 20000 in
theorem ggX1_init_J7_fill_53178 : GoodIn wsX1_init wsJ7_fill_53178 := goodIn_r _ [18] (by decide +kernel) (by decide +kernel)
set_option maxRecDepth 20000 in
theorem gX1_init_J7_fill_53178 : GoodIn wsX1_init (va_wsS RX1 27 yJ7_fill_53178 wsJ7_fill_53178) := goodIn_app (goodIn_of _ (by decide +kernel)) ggX1_init_J7_fill_53178
theorem dX1_init_0 : decode cX1_init 0 = .ok (.aload_n 0, 1) := by decide +kernel
theorem dX1_init_1 : decode cX1_init 1 = .ok (.invokespecial 3, 3) := by decide +kernel
theorem dX1_init_4 : decode cX1_init 4 = .ok (.aload_n 0, 1) := by decide +kernel
theorem dX1_init_5 : decode cX1_init 5 = .ok (.iconst 0, 1) := by decide +kernel
theorem dX1_init_6 : decode cX1_init 6 = .ok (.iload_n 1, 1) := by decide +kernel
theorem dX1_init_7 : decode cX1_init 7 = .ok (.sipush 300, 3) := by decide +kernel
theorem dX1_init_10 : decode cX1_init 10 = .ok (.invokestatic 9, 3) := by decide +kernel
theorem dX1_init_13 : decode cX1_init 13 = .ok (.invokestatic 15, 3) := by decide +kernel
theorem dX1_init_16 : decode cX1_init 16 = .ok (.newarray .int, 2) := by decide +kernel
theorem dX1_init_18 : decode cX1_init 18 = .ok (.putfield 18, 3) := by decide +kernel
theorem dX1_init_21 : decode cX1_init 21 = .ok (.aload_n 0, 1) := by decide +kernel
theorem dX1_init_22 : decode cX1_init 22 = .ok (.bipush 101, 2) := by decide +kernel
theorem dX1_init_24 : decode cX1_init 24 = .ok (.newarray .int, 2) := by decide +kernel
theorem dX1_init_26 : decode cX1_init 26 = .ok (.putfield 24, 3) := by decide +kernel
theorem dX1_init_29 : decode cX1_init 29 = .ok (.aload_n 0, 1) := by decide +kernel
theorem dX1_init_30 : decode cX1_init 30 = .ok (.getfield 24, 3) := by decide +kernel
theorem dX1_init_33 : decode cX1_init 33 = .ok (.bipush (-5), 2) := by decide +kernel
theorem dX1_init_35 : decode cX1_init 35 = .ok (.invokestatic 27, 3) := by decide +kernel
theorem dX1_init_38 : decode cX1_init 38 = .ok (.aload_n 0, 1) := by decide +kernel
theorem dX1_init_39 : decode cX1_init 39 = .ok (.iconst 0, 1) := by decide +kernel
theorem dX1_init_40 : decode cX1_init 40 = .ok (.putfield 33, 3) := by decide +kernel
theorem dX1_init_43 : decode cX1_init 43 = .ok (.return_, 1) := by decide +kernel
set_option maxRecDepth 20000 in
theorem ggX1_copy_X1_init : GoodIn wsX1_copy wsX1_init := goodIn_r _ [7, 8, 9, 10, 11, 12, 13, 14, 15, 16, 17, 18, 19, 20, 4, 21, 22, 23, 24, 29, 30, 31] (by decide +kernel) (by decide +kernel)
set_option maxRecDepth 20000 in
theorem gX1_copy_X1_init : GoodIn wsX1_copy (wsX1_init) := ggX1_copy_X1_init
set_option maxRecDepth 20000 in
theorem ggX1_copy_X1_copyFrom : GoodIn wsX1_copy wsX1_copyFrom := goodIn_r _ [28, 4, 19, 11, 12, 13, 14, 20, 29, 30, 31] (by decide +kernel) (by decide +kernel)
set_option maxRecDepth 20000 in
theorem gX1_copy_X1_copyFrom : GoodIn wsX1_copy (wsV RX1 40 RX1 yX1_copyFrom wsX1_copyFrom) := goodIn_app (goodIn_of _ (by decide +kernel)) ggX1_copy_X1_copyFrom
theorem dX1_copy_0 : decode cX1_copy 0 = .ok (.new 19, 3) := by decide +kernel
theorem dX1_copy_3 : decode cX1_copy 3 = .ok (.dup, 1) := by decide +kernel
theorem dX1_copy_4 : decode cX1_copy 4 = .ok (.aload_n 0, 1) := by decide +kernel
theorem dX1_copy_5 : decode cX1_copy 5 = .ok (.getfield 33, 3) := by decide +kernel
theorem dX1_copy_8 : decode cX1_copy 8 = .ok (.iload_n 1, 1) := by decide +kernel
theorem dX1_copy_9 : decode cX1_copy 9 = .ok (.iadd, 1) := by decide +kernel
theorem dX1_copy_10 : decode cX1_copy 10 = .ok (.invokespecial 37, 3) := by decide +kernel
theorem dX1_copy_13 : decode cX1_copy 13 = .ok (.astore_n 2, 1) := by decide +kernel
theorem dX1_copy_14 : decode cX1_copy 14 = .ok (.aload_n 2, 1) := by decide +kernel
theorem dX1_copy_15 : decode cX1_copy 15 = .ok (.aload_n 0, 1) := by decide +kernel
theorem dX1_copy_16 : decode cX1_copy 16 = .ok (.invokevirtual 40, 3) := by decide +kernel
theorem dX1_copy_19 : decode cX1_copy 19 = .ok (.aload_n 2, 1) := by decide +kernel
theorem dX1_copy_20 : decode cX1_copy 20 = .ok (.areturn, 1) := by decide +kernel
theorem dX1_copyFrom_0 : decode cX1_copyFrom 0 = .ok (.aload_n 1, 1) := by decide +kernel
theorem dX1_copyFrom_1 : decode cX1_copyFrom 1 = .ok (.getfield 33, 3) := by decide +kernel
theorem dX1_copyFrom_4 : decode cX1_copyFrom 4 = .ok (.aload_n 0, 1) := by decide +kernel
theorem dX1_copyFrom_5 : decode cX1_copyFrom 5 = .ok (.getfield 18, 3) := by decide +kernel
theorem dX1_copyFrom_8 : decode cX1_copyFrom 8 = .ok (.arraylength, 1) := by decide +kernel
theorem dX1_copyFrom_9 : decode cX1_copyFrom 9 = .ok (.aload_n 1, 1) := by decide +kernel
theorem dX1_copyFrom_10 : decode cX1_copyFrom 10 = .ok (.getfield 18, 3) := by decide +kernel
theorem dX1_copyFrom_13 : decode cX1_copyFrom 13 = .ok (.arraylength, 1) := by decide +kernel
theorem dX1_copyFrom_14 : decode cX1_copyFrom 14 = .ok (.invokestatic 9, 3) := by decide +kernel
theorem dX1_copyFrom_17 : decode cX1_copyFrom 17 = .ok (.invokestatic 9, 3) := by decide +kernel
theorem dX1_copyFrom_20 : decode cX1_copyFrom 20 = .ok (.istore_n 2, 1) := by decide +kernel
theorem dX1_copyFrom_21 : decode cX1_copyFrom 21 = .ok (.iconst 0, 1) := by decide +kernel
theorem dX1_copyFrom_22 : decode cX1_copyFrom 22 = .ok (.istore_n 3, 1) := by decide +kernel
theorem dX1_copyFrom_23 : decode cX1_copyFrom 23 = .ok (.iload_n 3, 1) := by decide +kernel
theorem dX1_copyFrom_24 : decode cX1_copyFrom 24 = .ok (.iload_n 2, 1) := by decide +kernel
theorem dX1_copyFrom_25 : decode cX1_copyFrom 25 = .ok (.if_icmp .ge 21, 3) := by decide +kernel
theorem dX1_copyFrom_28 : decode cX1_copyFrom 28 = .ok (.aload_n 0, 1) := by decide +kernel
theorem dX1_copyFrom_29 : decode cX1_copyFrom 29 = .ok (.getfield 18, 3) := by decide +kernel
theorem dX1_copyFrom_32 : decode cX1_copyFrom 32 = .ok (.iload_n 3, 1) := by decide +kernel
theorem dX1_copyFrom_33 : decode cX1_copyFrom 33 = .ok (.aload_n 1, 1) := by decide +kernel
theorem dX1_copyFrom_34 : decode cX1_copyFrom 34 = .ok (.getfield 18, 3) := by decide +kernel
theorem dX1_copyFrom_37 : decode cX1_copyFrom 37 = .ok (.iload_n 3, 1) := by decide +kernel
theorem dX1_copyFrom_38 : decode cX1_copyFrom 38 = .ok (.iaload, 1) := by decide +kernel
theorem dX1_copyFrom_39 : decode cX1_copyFrom 39 = .ok (.iastore, 1) := by decide +kernel
theorem dX1_copyFrom_40 : decode cX1_copyFrom 40 = .ok (.iinc 3 1, 3) := by decide +kernel
theorem dX1_copyFrom_43 : decode cX1_copyFrom 43 = .ok (.goto (-20), 3) := by decide +kernel
theorem dX1_copyFrom_46 : decode cX1_copyFrom 46 = .ok (.iconst 0, 1) := by decide +kernel
theorem dX1_copyFrom_47 : decode cX1_copyFrom 47 = .ok (.istore_n 3, 1) := by decide +kernel
theorem dX1_copyFrom_48 : decode cX1_copyFrom 48 = .ok (.iload_n 3, 1) := by decide +kernel
theorem dX1_copyFrom_49 : decode cX1_copyFrom 49 = .ok (.bipush 101, 2) := by decide +kernel
theorem dX1_copyFrom_51 : decode cX1_copyFrom 51 = .ok (.if_icmp .ge 21, 3) := by decide +kernel
theorem dX1_copyFrom_54 : decode cX1_copyFrom 54 = .ok (.aload_n 0, 1) := by decide +kernel
theorem dX1_copyFrom_55 : decode cX1_copyFrom 55 = .ok (.getfield 24, 3) := by decide +kernel
theorem dX1_copyFrom_58 : decode cX1_copyFrom 58 = .ok (.iload_n 3, 1) := by decide +kernel
theorem dX1_copyFrom_59 : decode cX1_copyFrom 59 = .ok (.aload_n 1, 1) := by decide +kernel
theorem dX1_copyFrom_60 : decode cX1_copyFrom 60 = .ok (.getfield 24, 3) := by decide +kernel
theorem dX1_copyFrom_63 : decode cX1_copyFrom 63 = .ok (.iload_n 3, 1) := by decide +kernel
theorem dX1_copyFrom_64 : decode cX1_copyFrom 64 = .ok (.iaload, 1) := by decide +kernel
theorem dX1_copyFrom_65 : decode cX1_copyFrom 65 = .ok (.iastore, 1) := by decide +kernel
theorem dX1_copyFrom_66 : decode cX1_copyFrom 66 = .ok (.iinc 3 1, 3) := by decide +kernel
theorem dX1_copyFrom_69 : decode cX1_copyFrom 69 = .ok (.goto (-21), 3) := by decide +kernel
theorem dX1_copyFrom_72 : decode cX1_copyFrom 72 = .ok (.aload_n 0, 1) := by decide +kernel
theorem dX1_copyFrom_73 : decode cX1_copyFrom 73 = .ok (.iload_n 2, 1) := by decide +kernel
theorem dX1_copyFrom_74 : decode cX1_copyFrom 74 = .ok (.putfield 33, 3) := by decide +kernel
theorem dX1_copyFrom_77 : decode cX1_copyFrom 77 = .ok (.return_, 1) := by decide +kernel
theorem dX1_leaves_0 : decode cX1_leaves 0 = .ok (.aload_n 0, 1) := by decide +kernel
theorem dX1_leaves_1 : decode cX1_leaves 1 = .ok (.getfield 33, 3) := by decide +kernel
theorem dX1_leaves_4 : decode cX1_leaves 4 = .ok (.ifCond .ne 7, 3) := by decide +kernel
theorem dX1_leaves_7 : decode cX1_leaves 7 = .ok (.iconst 0, 1) := by decide +kernel
theorem dX1_leaves_8 : decode cX1_leaves 8 = .ok (.goto 11, 3) := by decide +kernel
theorem dX1_leaves_11 : decode cX1_leaves 11 = .ok (.aload_n 0, 1) := by decide +kernel
theorem dX1_leaves_12 : decode cX1_leaves 12 = .ok (.getfield 33, 3) := by decide +kernel
theorem dX1_leaves_15 : decode cX1_leaves 15 = .ok (.iconst 1, 1) := by decide +kernel
theorem dX1_leaves_16 : decode cX1_leaves 16 = .ok (.isub, 1) := by decide +kernel
theorem dX1_leaves_17 : decode cX1_leaves 17 = .ok (.iconst 4, 1) := by decide +kernel
theorem dX1_leaves_18 : decode cX1_leaves 18 = .ok (.idiv, 1) := by decide +kernel
theorem dX1_leaves_19 : decode cX1_leaves 19 = .ok (.ireturn, 1) := by decide +kernel
set_option maxRecDepth 20000 in
theorem ggX1_tail_X1_leaves : GoodIn wsX1_tail wsX1_leaves := goodIn_r _ [6, 1, 7, 8, 9] (by decide +kernel) (by decide +kernel)
set_option maxRecDepth 20000 in
theorem gX1_tail_X1_leaves : GoodIn wsX1_tail (wsV RX1 44 RX1 yX1_leaves wsX1_leaves) := goodIn_app (goodIn_of _ (by decide +kernel)) ggX1_tail_X1_leaves
theorem dX1_tail_0 : decode cX1_tail 0 = .ok (.aload_n 0, 1) := by decide +kernel
theorem dX1_tail_1 : decode cX1_tail 1 = .ok (.getfield 33, 3) := by decide +kernel
theorem dX1_tail_4 : decode cX1_tail 4 = .ok (.aload_n 0, 1) := by decide +kernel
theorem dX1_tail_5 : decode cX1_tail 5 = .ok (.invokevirtual 44, 3) := by decide +kernel
theorem dX1_tail_8 : decode cX1_tail 8 = .ok (.iconst 4, 1) := by decide +kernel
theorem dX1_tail_9 : decode cX1_tail 9 = .ok (.imul, 1) := by decide +kernel
theorem dX1_tail_10 : decode cX1_tail 10 = .ok (.isub, 1) := by decide +kernel
theorem dX1_tail_11 : decode cX1_tail 11 = .ok (.ireturn, 1) := by decide +kernel
theorem dX1_slotOf_0 : decode cX1_slotOf 0 = .ok (.iload_n 0, 1) := by decide +kernel
theorem dX1_slotOf_1 : decode cX1_slotOf 1 = .ok (.ifCond .lt 12, 3) := by decide +kernel
theorem dX1_slotOf_4 : decode cX1_slotOf 4 = .ok (.iload_n 0, 1) := by decide +kernel
theorem dX1_slotOf_5 : decode cX1_slotOf 5 = .ok (.iconst 4, 1) := by decide +kernel
theorem dX1_slotOf_6 : decode cX1_slotOf 6 = .ok (.if_icmp .gt 7, 3) := by decide +kernel
theorem dX1_slotOf_9 : decode cX1_slotOf 9 = .ok (.iload_n 1, 1) := by decide +kernel
theorem dX1_slotOf_10 : decode cX1_slotOf 10 = .ok (.ifCond .ge 5, 3) := by decide +kernel
theorem dX1_slotOf_13 : decode cX1_slotOf 13 = .ok (.iconst (-1), 1) := by decide +kernel
theorem dX1_slotOf_14 : decode cX1_slotOf 14 = .ok (.ireturn, 1) := by decide +kernel
theorem dX1_slotOf_15 : decode cX1_slotOf 15 = .ok (.getstatic 48, 3) := by decide +kernel
theorem dX1_slotOf_18 : decode cX1_slotOf 18 = .ok (.iload_n 0, 1) := by decide +kernel
theorem dX1_slotOf_19 : decode cX1_slotOf 19 = .ok (.iaload, 1) := by decide +kernel
theorem dX1_slotOf_20 : decode cX1_slotOf 20 = .ok (.istore_n 2, 1) := by decide +kernel
theorem dX1_slotOf_21 : decode cX1_slotOf 21 = .ok (.iload_n 1, 1) := by decide +kernel
theorem dX1_slotOf_22 : decode cX1_slotOf 22 = .ok (.getstatic 48, 3) := by decide +kernel
theorem dX1_slotOf_25 : decode cX1_slotOf 25 = .ok (.iload_n 0, 1) := by decide +kernel
theorem dX1_slotOf_26 : decode cX1_slotOf 26 = .ok (.iconst 1, 1) := by decide +kernel
theorem dX1_slotOf_27 : decode cX1_slotOf 27 = .ok (.iadd, 1) := by decide +kernel
theorem dX1_slotOf_28 : decode cX1_slotOf 28 = .ok (.iaload, 1) := by decide +kernel
theorem dX1_slotOf_29 : decode cX1_slotOf 29 = .ok (.iload_n 2, 1) := by decide +kernel
theorem dX1_slotOf_30 : decode cX1_slotOf 30 = .ok (.isub, 1) := by decide +kernel
theorem dX1_slotOf_31 : decode cX1_slotOf 31 = .ok (.if_icmp .ge 9, 3) := by decide +kernel
theorem dX1_slotOf_34 : decode cX1_slotOf 34 = .ok (.iload_n 2, 1) := by decide +kernel
theorem dX1_slotOf_35 : decode cX1_slotOf 35 = .ok (.iload_n 1, 1) := by decide +kernel
theorem dX1_slotOf_36 : decode cX1_slotOf 36 = .ok (.iadd, 1) := by decide +kernel
theorem dX1_slotOf_37 : decode cX1_slotOf 37 = .ok (.goto 4, 3) := by decide +kernel
theorem dX1_slotOf_40 : decode cX1_slotOf 40 = .ok (.iconst (-1), 1) := by decide +kernel
theorem dX1_slotOf_41 : decode cX1_slotOf 41 = .ok (.ireturn, 1) := by decide +kernel
set_option maxRecDepth 20000 in
theorem ggX1_numberAt_X1_slotOf : GoodIn wsX1_numberAt wsX1_slotOf := goodIn_r _ [5] (by decide +kernel) (by decide +kernel)
set_option maxRecDepth 20000 in
theorem gX1_numberAt_X1_slotOf : GoodIn wsX1_numberAt (va_wsS RX1 51 yX1_slotOf wsX1_slotOf) := goodIn_app (goodIn_of _ (by decide +kernel)) ggX1_numberAt_X1_slotOf
theorem dX1_numberAt_0 : decode cX1_numberAt 0 = .ok (.iload_n 1, 1) := by decide +kernel
theorem dX1_numberAt_1 : decode cX1_numberAt 1 = .ok (.iload_n 2, 1) := by decide +kernel
theorem dX1_numberAt_2 : decode cX1_numberAt 2 = .ok (.invokestatic 51, 3) := by decide +kernel
theorem dX1_numberAt_5 : decode cX1_numberAt 5 = .ok (.istore_n 3, 1) := by decide +kernel
theorem dX1_numberAt_6 : decode cX1_numberAt 6 = .ok (.iload_n 3, 1) := by decide +kernel
theorem dX1_numberAt_7 : decode cX1_numberAt 7 = .ok (.ifCond .ge 8, 3) := by decide +kernel
theorem dX1_numberAt_10 : decode cX1_numberAt 10 = .ok (.bipush (-5), 2) := by decide +kernel
theorem dX1_numberAt_12 : decode cX1_numberAt 12 = .ok (.goto 9, 3) := by decide +kernel
theorem dX1_numberAt_15 : decode cX1_numberAt 15 = .ok (.aload_n 0, 1) := by decide +kernel
theorem dX1_numberAt_16 : decode cX1_numberAt 16 = .ok (.getfield 24, 3) := by decide +kernel
theorem dX1_numberAt_19 : decode cX1_numberAt 19 = .ok (.iload_n 3, 1) := by decide +kernel
theorem dX1_numberAt_20 : decode cX1_numberAt 20 = .ok (.iaload, 1) := by decide +kernel
theorem dX1_numberAt_21 : decode cX1_numberAt 21 = .ok (.ireturn, 1) := by decide +kernel
set_option maxRecDepth 20000 in
theorem ggX1_write_X1_tail : GoodIn wsX1_write wsX1_tail := goodIn_r _ [7, 1, 8, 9, 10, 6, 11, 31, 32, 33] (by decide +kernel) (by decide +kernel)
set_option maxRecDepth 20000 in
theorem gX1_write_X1_tail : GoodIn wsX1_write (wsV RX1 54 RX1 yX1_tail wsX1_tail) := goodIn_app (goodIn_of _ (by decide +kernel)) ggX1_write_X1_tail
set_option maxRecDepth 20000 in
theorem ggX1_write_X1_hangTail : GoodIn wsX1_write wsX1_hangTail := goodIn_r _ [15, 8, 9, 10, 6, 11, 1, 16, 17, 18, 19, 20, 21, 22, 23, 24, 25, 26, 27, 28, 29, 30, 31, 32, 33] (by decide +kernel) (by decide +kernel)
set_option maxRecDepth 20000 in
theorem gX1_write_X1_hangTail : GoodIn wsX1_write (wsV RX1 57 RX1 yX1_hangTail wsX1_hangTail) := goodIn_app (goodIn_of _ (by decide +kernel)) ggX1_write_X1_hangTail
set_option maxRecDepth 20000 in
theorem ggX1_write_X1_leaves : GoodIn wsX1_write wsX1_leaves := goodIn_r _ [11, 1, 31, 32, 33] (by decide +kernel) (by decide +kernel)
set_option maxRecDepth 20000 in
theorem gX1_write_X1_leaves : GoodIn wsX1_write (wsV RX1 44 RX1 yX1_leaves wsX1_leaves) := goodIn_app (goodIn_of _ (by decide +kernel)) ggX1_write_X1_leaves
set_option maxRecDepth 20000 in
theorem ggX1_write_X5_rootLevel : GoodIn wsX1_write wsX5_rootLevel := goodIn_r _ [18] (by decide +kernel) (by decide +kernel)
set_option maxRecDepth 20000 in
theorem gX1_write_X5_rootLevel_n60 : GoodIn wsX1_write (wsX5_rootLevel) := ggX1_write_X5_rootLevel
set_option maxRecDepth 20000 in
theorem ggX1_write_X1_makePath : GoodIn wsX1_write wsX1_makePath := goodIn_r _ [22, 23, 24, 6, 25, 26, 27, 28, 29, 30, 31, 32, 33] (by decide +kernel) (by decide +kernel)
set_option maxRecDepth 20000 in
theorem gX1_write_X1_makePath : GoodIn wsX1_write (wsV RX1 64 RX1 yX1_makePath wsX1_makePath) := goodIn_app (goodIn_of _ (by decide +kernel)) ggX1_write_X1_makePath
theorem dX1_write_0 : decode cX1_write 0 = .ok (.iload_n 1, 1) := by decide +kernel
theorem dX1_write_1 : decode cX1_write 1 = .ok (.ifCond .lt 20, 3) := by decide +kernel
theorem dX1_write_4 : decode cX1_write 4 = .ok (.iload_n 1, 1) := by decide +kernel
theorem dX1_write_5 : decode cX1_write 5 = .ok (.aload_n 0, 1) := by decide +kernel
theorem dX1_write_6 : decode cX1_write 6 = .ok (.getfield 33, 3) := by decide +kernel
theorem dX1_write_9 : decode cX1_write 9 = .ok (.if_icmp .gt 12, 3) := by decide +kernel
theorem dX1_write_12 : decode cX1_write 12 = .ok (.iload_n 1, 1) := by decide +kernel
theorem dX1_write_13 : decode cX1_write 13 = .ok (.aload_n 0, 1) := by decide +kernel
theorem dX1_write_14 : decode cX1_write 14 = .ok (.getfield 18, 3) := by decide +kernel
theorem dX1_write_17 : decode cX1_write 17 = .ok (.arraylength, 1) := by decide +kernel
theorem dX1_write_18 : decode cX1_write 18 = .ok (.if_icmp .lt 5, 3) := by decide +kernel
theorem dX1_write_21 : decode cX1_write 21 = .ok (.iconst 0, 1) := by decide +kernel
theorem dX1_write_22 : decode cX1_write 22 = .ok (.ireturn, 1) := by decide +kernel
theorem dX1_write_23 : decode cX1_write 23 = .ok (.iconst 0, 1) := by decide +kernel
theorem dX1_write_24 : decode cX1_write 24 = .ok (.istore 5, 2) := by decide +kernel
theorem dX1_write_26 : decode cX1_write 26 = .ok (.iload_n 1, 1) := by decide +kernel
theorem dX1_write_27 : decode cX1_write 27 = .ok (.aload_n 0, 1) := by decide +kernel
theorem dX1_write_28 : decode cX1_write 28 = .ok (.getfield 33, 3) := by decide +kernel
theorem dX1_write_31 : decode cX1_write 31 = .ok (.if_icmp .ne 37, 3) := by decide +kernel
theorem dX1_write_34 : decode cX1_write 34 = .ok (.aload_n 0, 1) := by decide +kernel
theorem dX1_write_35 : decode cX1_write 35 = .ok (.invokevirtual 54, 3) := by decide +kernel
theorem dX1_write_38 : decode cX1_write 38 = .ok (.iconst 4, 1) := by decide +kernel
theorem dX1_write_39 : decode cX1_write 39 = .ok (.if_icmp .ne 13, 3) := by decide +kernel
theorem dX1_write_42 : decode cX1_write 42 = .ok (.aload_n 0, 1) := by decide +kernel
theorem dX1_write_43 : decode cX1_write 43 = .ok (.iload_n 3, 1) := by decide +kernel
theorem dX1_write_44 : decode cX1_write 44 = .ok (.iload 4, 2) := by decide +kernel
theorem dX1_write_46 : decode cX1_write 46 = .ok (.invokevirtual 57, 3) := by decide +kernel
theorem dX1_write_49 : decode cX1_write 49 = .ok (.goto 4, 3) := by decide +kernel
theorem dX1_write_52 : decode cX1_write 52 = .ok (.iconst 0, 1) := by decide +kernel
theorem dX1_write_53 : decode cX1_write 53 = .ok (.istore 5, 2) := by decide +kernel
theorem dX1_write_55 : decode cX1_write 55 = .ok (.aload_n 0, 1) := by decide +kernel
theorem dX1_write_56 : decode cX1_write 56 = .ok (.dup, 1) := by decide +kernel
theorem dX1_write_57 : decode cX1_write 57 = .ok (.getfield 33, 3) := by decide +kernel
theorem dX1_write_60 : decode cX1_write 60 = .ok (.iconst 1, 1) := by decide +kernel
theorem dX1_write_61 : decode cX1_write 61 = .ok (.iadd, 1) := by decide +kernel
theorem dX1_write_62 : decode cX1_write 62 = .ok (.putfield 33, 3) := by decide +kernel
theorem dX1_write_65 : decode cX1_write 65 = .ok (.goto 32, 3) := by decide +kernel
theorem dX1_write_68 : decode cX1_write 68 = .ok (.iload_n 1, 1) := by decide +kernel
theorem dX1_write_69 : decode cX1_write 69 = .ok (.iconst 4, 1) := by decide +kernel
theorem dX1_write_70 : decode cX1_write 70 = .ok (.idiv, 1) := by decide +kernel
theorem dX1_write_71 : decode cX1_write 71 = .ok (.aload_n 0, 1) := by decide +kernel
theorem dX1_write_72 : decode cX1_write 72 = .ok (.invokevirtual 44, 3) := by decide +kernel
theorem dX1_write_75 : decode cX1_write 75 = .ok (.if_icmp .ge 22, 3) := by decide +kernel
theorem dX1_write_78 : decode cX1_write 78 = .ok (.aload_n 0, 1) := by decide +kernel
theorem dX1_write_79 : decode cX1_write 79 = .ok (.iload_n 1, 1) := by decide +kernel
theorem dX1_write_80 : decode cX1_write 80 = .ok (.iconst 4, 1) := by decide +kernel
theorem dX1_write_81 : decode cX1_write 81 = .ok (.idiv, 1) := by decide +kernel
theorem dX1_write_82 : decode cX1_write 82 = .ok (.aload_n 0, 1) := by decide +kernel
theorem dX1_write_83 : decode cX1_write 83 = .ok (.invokevirtual 44, 3) := by decide +kernel
theorem dX1_write_86 : decode cX1_write 86 = .ok (.invokestatic 60, 3) := by decide +kernel
theorem dX1_write_89 : decode cX1_write 89 = .ok (.iload_n 3, 1) := by decide +kernel
theorem dX1_write_90 : decode cX1_write 90 = .ok (.iload 4, 2) := by decide +kernel
theorem dX1_write_92 : decode cX1_write 92 = .ok (.invokevirtual 64, 3) := by decide +kernel
theorem dX1_write_95 : decode cX1_write 95 = .ok (.istore 5, 2) := by decide +kernel
theorem dX1_write_97 : decode cX1_write 97 = .ok (.aload_n 0, 1) := by decide +kernel
theorem dX1_write_98 : decode cX1_write 98 = .ok (.getfield 18, 3) := by decide +kernel
theorem dX1_write_101 : decode cX1_write 101 = .ok (.iload_n 1, 1) := by decide +kernel
theorem dX1_write_102 : decode cX1_write 102 = .ok (.iload_n 2, 1) := by decide +kernel
theorem dX1_write_103 : decode cX1_write 103 = .ok (.iastore, 1) := by decide +kernel
theorem dX1_write_104 : decode cX1_write 104 = .ok (.iload 5, 2) := by decide +kernel
theorem dX1_write_106 : decode cX1_write 106 = .ok (.ireturn, 1) := by decide +kernel
set_option maxRecDepth 20000 in
theorem ggX1_hangTail_X1_leaves : GoodIn wsX1_hangTail wsX1_leaves := goodIn_r _ [5, 6, 22, 23, 24] (by decide +kernel) (by decide +kernel)
set_option maxRecDepth 20000 in
theorem gX1_hangTail_X1_leaves : GoodIn wsX1_hangTail (wsV RX1 44 RX1 yX1_leaves wsX1_leaves) := goodIn_app (goodIn_of _ (by decide +kernel)) ggX1_hangTail_X1_leaves
set_option maxRecDepth 20000 in
theorem ggX1_hangTail_X5_rootLevel : GoodIn wsX1_hangTail wsX5_rootLevel := goodIn_r _ [9] (by decide +kernel) (by decide +kernel)
set_option maxRecDepth 20000 in
theorem gX1_hangTail_X5_rootLevel_n60 : GoodIn wsX1_hangTail (wsX5_rootLevel) := ggX1_hangTail_X5_rootLevel
set_option maxRecDepth 20000 in
theorem ggX1_hangTail_X1_makePath : GoodIn wsX1_hangTail wsX1_makePath := goodIn_r _ [13, 14, 15, 4, 16, 17, 18, 19, 20, 21, 22, 23, 24] (by decide +kernel) (by decide +kernel)
set_option maxRecDepth 20000 in
theorem gX1_hangTail_X1_makePath : GoodIn wsX1_hangTail (wsV RX1 64 RX1 yX1_makePath wsX1_makePath) := goodIn_app (goodIn_of _ (by decide +kernel)) ggX1_hangTail_X1_makePath
theorem dX1_hangTail_0 : decode cX1_hangTail 0 = .ok (.aload_n 0, 1) := by decide +kernel
theorem dX1_hangTail_1 : decode cX1_hangTail 1 = .ok (.invokevirtual 44, 3) := by decide +kernel
theorem dX1_hangTail_4 : decode cX1_hangTail 4 = .ok (.istore_n 3, 1) := by decide +kernel
theorem dX1_hangTail_5 : decode cX1_hangTail 5 = .ok (.aload_n 0, 1) := by decide +kernel
theorem dX1_hangTail_6 : decode cX1_hangTail 6 = .ok (.iload_n 3, 1) := by decide +kernel
theorem dX1_hangTail_7 : decode cX1_hangTail 7 = .ok (.iload_n 3, 1) := by decide +kernel
theorem dX1_hangTail_8 : decode cX1_hangTail 8 = .ok (.iconst 1, 1) := by decide +kernel
theorem dX1_hangTail_9 : decode cX1_hangTail 9 = .ok (.iadd, 1) := by decide +kernel
theorem dX1_hangTail_10 : decode cX1_hangTail 10 = .ok (.invokestatic 60, 3) := by decide +kernel
theorem dX1_hangTail_13 : decode cX1_hangTail 13 = .ok (.iload_n 1, 1) := by decide +kernel
theorem dX1_hangTail_14 : decode cX1_hangTail 14 = .ok (.iload_n 2, 1) := by decide +kernel
theorem dX1_hangTail_15 : decode cX1_hangTail 15 = .ok (.invokevirtual 64, 3) := by decide +kernel
theorem dX1_hangTail_18 : decode cX1_hangTail 18 = .ok (.ireturn, 1) := by decide +kernel
set_option maxRecDepth 20000 in
theorem ggX1_makePath_X1_slotOf : GoodIn wsX1_makePath wsX1_slotOf := goodIn_r _ [4] (by decide +kernel) (by decide +kernel)
set_option maxRecDepth 20000 in
theorem gX1_makePath_X1_slotOf : GoodIn wsX1_makePath (va_wsS RX1 51 yX1_slotOf wsX1_slotOf) := goodIn_app (goodIn_of _ (by decide +kernel)) ggX1_makePath_X1_slotOf
set_option maxRecDepth 20000 in
theorem ggX1_makePath_X1_makeBlock : GoodIn wsX1_makePath wsX1_makeBlock := goodIn_r _ [8, 9, 10, 11, 12] (by decide +kernel) (by decide +kernel)
set_option maxRecDepth 20000 in
theorem gX1_makePath_X1_makeBlock : GoodIn wsX1_makePath (wsV RX1 68 RX1 yX1_makeBlock wsX1_makeBlock) := goodIn_app (goodIn_of _ (by decide +kernel)) ggX1_makePath_X1_makeBlock
theorem dX1_makePath_0 : decode cX1_makePath 0 = .ok (.iconst 0, 1) := by decide +kernel
theorem dX1_makePath_1 : decode cX1_makePath 1 = .ok (.istore 5, 2) := by decide +kernel
theorem dX1_makePath_3 : decode cX1_makePath 3 = .ok (.iconst 0, 1) := by decide +kernel
theorem dX1_makePath_4 : decode cX1_makePath 4 = .ok (.istore 6, 2) := by decide +kernel
theorem dX1_makePath_6 : decode cX1_makePath 6 = .ok (.iload 6, 2) := by decide +kernel
theorem dX1_makePath_8 : decode cX1_makePath 8 = .ok (.iload_n 2, 1) := by decide +kernel
theorem dX1_makePath_9 : decode cX1_makePath 9 = .ok (.if_icmp .gt 35, 3) := by decide +kernel
theorem dX1_makePath_12 : decode cX1_makePath 12 = .ok (.iload 5, 2) := by decide +kernel
theorem dX1_makePath_14 : decode cX1_makePath 14 = .ok (.aload_n 0, 1) := by decide +kernel
theorem dX1_makePath_15 : decode cX1_makePath 15 = .ok (.iload 6, 2) := by decide +kernel
theorem dX1_makePath_17 : decode cX1_makePath 17 = .ok (.iload_n 1, 1) := by decide +kernel
theorem dX1_makePath_18 : decode cX1_makePath 18 = .ok (.iconst 2, 1) := by decide +kernel
theorem dX1_makePath_19 : decode cX1_makePath 19 = .ok (.iload 6, 2) := by decide +kernel
theorem dX1_makePath_21 : decode cX1_makePath 21 = .ok (.imul, 1) := by decide +kernel
theorem dX1_makePath_22 : decode cX1_makePath 22 = .ok (.ishr, 1) := by decide +kernel
theorem dX1_makePath_23 : decode cX1_makePath 23 = .ok (.invokestatic 51, 3) := by decide +kernel
theorem dX1_makePath_26 : decode cX1_makePath 26 = .ok (.iload_n 3, 1) := by decide +kernel
theorem dX1_makePath_27 : decode cX1_makePath 27 = .ok (.iload 5, 2) := by decide +kernel
theorem dX1_makePath_29 : decode cX1_makePath 29 = .ok (.iadd, 1) := by decide +kernel
theorem dX1_makePath_30 : decode cX1_makePath 30 = .ok (.iload 4, 2) := by decide +kernel
theorem dX1_makePath_32 : decode cX1_makePath 32 = .ok (.invokevirtual 68, 3) := by decide +kernel
theorem dX1_makePath_35 : decode cX1_makePath 35 = .ok (.iadd, 1) := by decide +kernel
theorem dX1_makePath_36 : decode cX1_makePath 36 = .ok (.istore 5, 2) := by decide +kernel
theorem dX1_makePath_38 : decode cX1_makePath 38 = .ok (.iinc 6 1, 3) := by decide +kernel
theorem dX1_makePath_41 : decode cX1_makePath 41 = .ok (.goto (-35), 3) := by decide +kernel
theorem dX1_makePath_44 : decode cX1_makePath 44 = .ok (.iload 5, 2) := by decide +kernel
theorem dX1_makePath_46 : decode cX1_makePath 46 = .ok (.ireturn, 1) := by decide +kernel
theorem dX1_makeBlock_0 : decode cX1_makeBlock 0 = .ok (.iload_n 1, 1) := by decide +kernel
theorem dX1_makeBlock_1 : decode cX1_makeBlock 1 = .ok (.ifCond .lt 19, 3) := by decide +kernel
theorem dX1_makeBlock_4 : decode cX1_makeBlock 4 = .ok (.iload_n 1, 1) := by decide +kernel
theorem dX1_makeBlock_5 : decode cX1_makeBlock 5 = .ok (.bipush 101, 2) := by decide +kernel
theorem dX1_makeBlock_7 : decode cX1_makeBlock 7 = .ok (.if_icmp .ge 13, 3) := by decide +kernel
theorem dX1_makeBlock_10 : decode cX1_makeBlock 10 = .ok (.aload_n 0, 1) := by decide +kernel
theorem dX1_makeBlock_11 : decode cX1_makeBlock 11 = .ok (.getfield 24, 3) := by decide +kernel
theorem dX1_makeBlock_14 : decode cX1_makeBlock 14 = .ok (.iload_n 1, 1) := by decide +kernel
theorem dX1_makeBlock_15 : decode cX1_makeBlock 15 = .ok (.iaload, 1) := by decide +kernel
theorem dX1_makeBlock_16 : decode cX1_makeBlock 16 = .ok (.iload_n 3, 1) := by decide +kernel
theorem dX1_makeBlock_17 : decode cX1_makeBlock 17 = .ok (.if_icmp .lt 5, 3) := by decide +kernel
theorem dX1_makeBlock_20 : decode cX1_makeBlock 20 = .ok (.iconst 0, 1) := by decide +kernel
theorem dX1_makeBlock_21 : decode cX1_makeBlock 21 = .ok (.ireturn, 1) := by decide +kernel
theorem dX1_makeBlock_22 : decode cX1_makeBlock 22 = .ok (.aload_n 0, 1) := by decide +kernel
theorem dX1_makeBlock_23 : decode cX1_makeBlock 23 = .ok (.getfield 24, 3) := by decide +kernel
theorem dX1_makeBlock_26 : decode cX1_makeBlock 26 = .ok (.iload_n 1, 1) := by decide +kernel
theorem dX1_makeBlock_27 : decode cX1_makeBlock 27 = .ok (.iload_n 2, 1) := by decide +kernel
theorem dX1_makeBlock_28 : decode cX1_makeBlock 28 = .ok (.iastore, 1) := by decide +kernel
theorem dX1_makeBlock_29 : decode cX1_makeBlock 29 = .ok (.iconst 1, 1) := by decide +kernel
theorem dX1_makeBlock_30 : decode cX1_makeBlock 30 = .ok (.ireturn, 1) := by decide +kernel
set_option maxRecDepth 20000 in
theorem ggX1_removeLast_X1_tail : GoodIn wsX1_removeLast wsX1_tail := goodIn_r _ [6, 1, 7, 8, 9, 5, 10, 33, 34, 35] (by decide +kernel) (by decide +kernel)
set_option maxRecDepth 20000 in
theorem gX1_removeLast_X1_tail : GoodIn wsX1_removeLast (wsV RX1 54 RX1 yX1_tail wsX1_tail) := goodIn_app (goodIn_of _ (by decide +kernel)) ggX1_removeLast_X1_tail
set_option maxRecDepth 20000 in
theorem ggX1_removeLast_X1_takeLastLeaf : GoodIn wsX1_removeLast wsX1_takeLastLeaf := goodIn_r _ [14, 7, 8, 9, 5, 10, 1, 15, 16, 17, 18, 19, 20, 21, 22, 23, 24, 25, 26, 27, 28, 29, 30, 31, 32, 33, 34, 35] (by decide +kernel) (by decide +kernel)
set_option maxRecDepth 20000 in
theorem gX1_removeLast_X1_takeLastLeaf : GoodIn wsX1_removeLast (wsV RX1 72 RX1 yX1_takeLastLeaf wsX1_takeLastLeaf) := goodIn_app (goodIn_of _ (by decide +kernel)) ggX1_removeLast_X1_takeLastLeaf
theorem dX1_removeLast_0 : decode cX1_removeLast 0 = .ok (.aload_n 0, 1) := by decide +kernel
theorem dX1_removeLast_1 : decode cX1_removeLast 1 = .ok (.getfield 33, 3) := by decide +kernel
theorem dX1_removeLast_4 : decode cX1_removeLast 4 = .ok (.ifCond .ne 5, 3) := by decide +kernel
theorem dX1_removeLast_7 : decode cX1_removeLast 7 = .ok (.iconst 0, 1) := by decide +kernel
theorem dX1_removeLast_8 : decode cX1_removeLast 8 = .ok (.ireturn, 1) := by decide +kernel
theorem dX1_removeLast_9 : decode cX1_removeLast 9 = .ok (.aload_n 0, 1) := by decide +kernel
theorem dX1_removeLast_10 : decode cX1_removeLast 10 = .ok (.invokevirtual 54, 3) := by decide +kernel
theorem dX1_removeLast_13 : decode cX1_removeLast 13 = .ok (.iconst 1, 1) := by decide +kernel
theorem dX1_removeLast_14 : decode cX1_removeLast 14 = .ok (.if_icmp .ne 12, 3) := by decide +kernel
theorem dX1_removeLast_17 : decode cX1_removeLast 17 = .ok (.aload_n 0, 1) := by decide +kernel
theorem dX1_removeLast_18 : decode cX1_removeLast 18 = .ok (.iload_n 1, 1) := by decide +kernel
theorem dX1_removeLast_19 : decode cX1_removeLast 19 = .ok (.iload_n 2, 1) := by decide +kernel
theorem dX1_removeLast_20 : decode cX1_removeLast 20 = .ok (.invokevirtual 72, 3) := by decide +kernel
theorem dX1_removeLast_23 : decode cX1_removeLast 23 = .ok (.goto 4, 3) := by decide +kernel
theorem dX1_removeLast_26 : decode cX1_removeLast 26 = .ok (.iconst 0, 1) := by decide +kernel
theorem dX1_removeLast_27 : decode cX1_removeLast 27 = .ok (.istore_n 3, 1) := by decide +kernel
theorem dX1_removeLast_28 : decode cX1_removeLast 28 = .ok (.aload_n 0, 1) := by decide +kernel
theorem dX1_removeLast_29 : decode cX1_removeLast 29 = .ok (.dup, 1) := by decide +kernel
theorem dX1_removeLast_30 : decode cX1_removeLast 30 = .ok (.getfield 33, 3) := by decide +kernel
theorem dX1_removeLast_33 : decode cX1_removeLast 33 = .ok (.iconst 1, 1) := by decide +kernel
theorem dX1_removeLast_34 : decode cX1_removeLast 34 = .ok (.isub, 1) := by decide +kernel
theorem dX1_removeLast_35 : decode cX1_removeLast 35 = .ok (.putfield 33, 3) := by decide +kernel
theorem dX1_removeLast_38 : decode cX1_removeLast 38 = .ok (.iload_n 3, 1) := by decide +kernel
theorem dX1_removeLast_39 : decode cX1_removeLast 39 = .ok (.ireturn, 1) := by decide +kernel
set_option maxRecDepth 20000 in
theorem ggX1_takeLastLeaf_X1_leaves : GoodIn wsX1_takeLastLeaf wsX1_leaves := goodIn_r _ [5, 6, 25, 26, 27] (by decide +kernel) (by decide +kernel)
set_option maxRecDepth 20000 in
theorem gX1_takeLastLeaf_X1_leaves : GoodIn wsX1_takeLastLeaf (wsV RX1 44 RX1 yX1_leaves wsX1_leaves) := goodIn_app (goodIn_of _ (by decide +kernel)) ggX1_takeLastLeaf_X1_leaves
set_option maxRecDepth 20000 in
theorem ggX1_takeLastLeaf_X5_rootLevel : GoodIn wsX1_takeLastLeaf wsX5_rootLevel := goodIn_r _ [9] (by decide +kernel) (by decide +kernel)
set_option maxRecDepth 20000 in
theorem gX1_takeLastLeaf_X5_rootLevel_n60 : GoodIn wsX1_takeLastLeaf (wsX5_rootLevel) := ggX1_takeLastLeaf_X5_rootLevel
set_option maxRecDepth 20000 in
theorem ggX1_takeLastLeaf_X1_slotOf : GoodIn wsX1_takeLastLeaf wsX1_slotOf := goodIn_r _ [12] (by decide +kernel) (by decide +kernel)
set_option maxRecDepth 20000 in
theorem gX1_takeLastLeaf_X1_slotOf : GoodIn wsX1_takeLastLeaf (va_wsS RX1 51 yX1_slotOf wsX1_slotOf) := goodIn_app (goodIn_of _ (by decide +kernel)) ggX1_takeLastLeaf_X1_slotOf
set_option maxRecDepth 20000 in
theorem ggX1_takeLastLeaf_X1_isFirstLeafOfBlock : GoodIn wsX1_takeLastLeaf wsX1_isFirstLeafOfBlock := goodIn_r _ [15] (by decide +kernel) (by decide +kernel)
set_option maxRecDepth 20000 in
theorem gX1_takeLastLeaf_X1_isFirstLeafOfBlock : GoodIn wsX1_takeLastLeaf (va_wsS RX1 75 yX1_isFirstLeafOfBlock wsX1_isFirstLeafOfBlock) := goodIn_app (goodIn_of _ (by decide +kernel)) ggX1_takeLastLeaf_X1_isFirstLeafOfBlock
set_option maxRecDepth 20000 in
theorem ggX1_takeLastLeaf_X1_removeBlock : GoodIn wsX1_takeLastLeaf wsX1_removeBlock := goodIn_r _ [19, 20, 25, 26, 27] (by decide +kernel) (by decide +kernel)
set_option maxRecDepth 20000 in
theorem gX1_takeLastLeaf_X1_removeBlock : GoodIn wsX1_takeLastLeaf (wsV RX1 79 RX1 yX1_removeBlock wsX1_removeBlock) := goodIn_app (goodIn_of _ (by decide +kernel)) ggX1_takeLastLeaf_X1_removeBlock
set_option maxRecDepth 20000 in
theorem ggX1_takeLastLeaf_X1_makeBlock : GoodIn wsX1_takeLastLeaf wsX1_makeBlock := goodIn_r _ [24, 20, 25, 26, 27] (by decide +kernel) (by decide +kernel)
set_option maxRecDepth 20000 in
theorem gX1_takeLastLeaf_X1_makeBlock : GoodIn wsX1_takeLastLeaf (wsV RX1 68 RX1 yX1_makeBlock wsX1_makeBlock) := goodIn_app (goodIn_of _ (by decide +kernel)) ggX1_takeLastLeaf_X1_makeBlock
theorem dX1_takeLastLeaf_0 : decode cX1_takeLastLeaf 0 = .ok (.aload_n 0, 1) := by decide +kernel
theorem dX1_takeLastLeaf_1 : decode cX1_takeLastLeaf 1 = .ok (.invokevirtual 44, 3) := by decide +kernel
theorem dX1_takeLastLeaf_4 : decode cX1_takeLastLeaf 4 = .ok (.iconst 1, 1) := by decide +kernel
theorem dX1_takeLastLeaf_5 : decode cX1_takeLastLeaf 5 = .ok (.isub, 1) := by decide +kernel
theorem dX1_takeLastLeaf_6 : decode cX1_takeLastLeaf 6 = .ok (.istore_n 3, 1) := by decide +kernel
theorem dX1_takeLastLeaf_7 : decode cX1_takeLastLeaf 7 = .ok (.aload_n 0, 1) := by decide +kernel
theorem dX1_takeLastLeaf_8 : decode cX1_takeLastLeaf 8 = .ok (.invokevirtual 44, 3) := by decide +kernel
theorem dX1_takeLastLeaf_11 : decode cX1_takeLastLeaf 11 = .ok (.invokestatic 60, 3) := by decide +kernel
theorem dX1_takeLastLeaf_14 : decode cX1_takeLastLeaf 14 = .ok (.istore 4, 2) := by decide +kernel
theorem dX1_takeLastLeaf_16 : decode cX1_takeLastLeaf 16 = .ok (.iload_n 3, 1) := by decide +kernel
theorem dX1_takeLastLeaf_17 : decode cX1_takeLastLeaf 17 = .ok (.invokestatic 60, 3) := by decide +kernel
theorem dX1_takeLastLeaf_20 : decode cX1_takeLastLeaf 20 = .ok (.istore 5, 2) := by decide +kernel
theorem dX1_takeLastLeaf_22 : decode cX1_takeLastLeaf 22 = .ok (.iconst 0, 1) := by decide +kernel
theorem dX1_takeLastLeaf_23 : decode cX1_takeLastLeaf 23 = .ok (.istore 6, 2) := by decide +kernel
theorem dX1_takeLastLeaf_25 : decode cX1_takeLastLeaf 25 = .ok (.iconst 0, 1) := by decide +kernel
theorem dX1_takeLastLeaf_26 : decode cX1_takeLastLeaf 26 = .ok (.istore 7, 2) := by decide +kernel
theorem dX1_takeLastLeaf_28 : decode cX1_takeLastLeaf 28 = .ok (.iload 7, 2) := by decide +kernel
theorem dX1_takeLastLeaf_30 : decode cX1_takeLastLeaf 30 = .ok (.iload 4, 2) := by decide +kernel
theorem dX1_takeLastLeaf_32 : decode cX1_takeLastLeaf 32 = .ok (.if_icmp .gt 63, 3) := by decide +kernel
theorem dX1_takeLastLeaf_35 : decode cX1_takeLastLeaf 35 = .ok (.iload 7, 2) := by decide +kernel
theorem dX1_takeLastLeaf_37 : decode cX1_takeLastLeaf 37 = .ok (.iload_n 3, 1) := by decide +kernel
theorem dX1_takeLastLeaf_38 : decode cX1_takeLastLeaf 38 = .ok (.iconst 2, 1) := by decide +kernel
theorem dX1_takeLastLeaf_39 : decode cX1_takeLastLeaf 39 = .ok (.iload 7, 2) := by decide +kernel
theorem dX1_takeLastLeaf_41 : decode cX1_takeLastLeaf 41 = .ok (.imul, 1) := by decide +kernel
theorem dX1_takeLastLeaf_42 : decode cX1_takeLastLeaf 42 = .ok (.ishr, 1) := by decide +kernel
theorem dX1_takeLastLeaf_43 : decode cX1_takeLastLeaf 43 = .ok (.invokestatic 51, 3) := by decide +kernel
theorem dX1_takeLastLeaf_46 : decode cX1_takeLastLeaf 46 = .ok (.istore 8, 2) := by decide +kernel
theorem dX1_takeLastLeaf_48 : decode cX1_takeLastLeaf 48 = .ok (.iload 7, 2) := by decide +kernel
theorem dX1_takeLastLeaf_50 : decode cX1_takeLastLeaf 50 = .ok (.iload 5, 2) := by decide +kernel
theorem dX1_takeLastLeaf_52 : decode cX1_takeLastLeaf 52 = .ok (.if_icmp .gt 12, 3) := by decide +kernel
theorem dX1_takeLastLeaf_55 : decode cX1_takeLastLeaf 55 = .ok (.iload_n 3, 1) := by decide +kernel
theorem dX1_takeLastLeaf_56 : decode cX1_takeLastLeaf 56 = .ok (.iload 7, 2) := by decide +kernel
theorem dX1_takeLastLeaf_58 : decode cX1_takeLastLeaf 58 = .ok (.invokestatic 75, 3) := by decide +kernel
theorem dX1_takeLastLeaf_61 : decode cX1_takeLastLeaf 61 = .ok (.ifCond .eq 12, 3) := by decide +kernel
theorem dX1_takeLastLeaf_64 : decode cX1_takeLastLeaf 64 = .ok (.aload_n 0, 1) := by decide +kernel
theorem dX1_takeLastLeaf_65 : decode cX1_takeLastLeaf 65 = .ok (.iload 8, 2) := by decide +kernel
theorem dX1_takeLastLeaf_67 : decode cX1_takeLastLeaf 67 = .ok (.invokevirtual 79, 3) := by decide +kernel
theorem dX1_takeLastLeaf_70 : decode cX1_takeLastLeaf 70 = .ok (.goto 19, 3) := by decide +kernel
theorem dX1_takeLastLeaf_73 : decode cX1_takeLastLeaf 73 = .ok (.iload 6, 2) := by decide +kernel
theorem dX1_takeLastLeaf_75 : decode cX1_takeLastLeaf 75 = .ok (.aload_n 0, 1) := by decide +kernel
theorem dX1_takeLastLeaf_76 : decode cX1_takeLastLeaf 76 = .ok (.iload 8, 2) := by decide +kernel
theorem dX1_takeLastLeaf_78 : decode cX1_takeLastLeaf 78 = .ok (.iload_n 1, 1) := by decide +kernel
theorem dX1_takeLastLeaf_79 : decode cX1_takeLastLeaf 79 = .ok (.iload 6, 2) := by decide +kernel
theorem dX1_takeLastLeaf_81 : decode cX1_takeLastLeaf 81 = .ok (.iadd, 1) := by decide +kernel
theorem dX1_takeLastLeaf_82 : decode cX1_takeLastLeaf 82 = .ok (.iload_n 2, 1) := by decide +kernel
theorem dX1_takeLastLeaf_83 : decode cX1_takeLastLeaf 83 = .ok (.invokevirtual 68, 3) := by decide +kernel
theorem dX1_takeLastLeaf_86 : decode cX1_takeLastLeaf 86 = .ok (.iadd, 1) := by decide +kernel
theorem dX1_takeLastLeaf_87 : decode cX1_takeLastLeaf 87 = .ok (.istore 6, 2) := by decide +kernel
theorem dX1_takeLastLeaf_89 : decode cX1_takeLastLeaf 89 = .ok (.iinc 7 1, 3) := by decide +kernel
theorem dX1_takeLastLeaf_92 : decode cX1_takeLastLeaf 92 = .ok (.goto (-64), 3) := by decide +kernel
theorem dX1_takeLastLeaf_95 : decode cX1_takeLastLeaf 95 = .ok (.iload 6, 2) := by decide +kernel
theorem dX1_takeLastLeaf_97 : decode cX1_takeLastLeaf 97 = .ok (.ireturn, 1) := by decide +kernel
theorem dX1_isFirstLeafOfBlock_0 : decode cX1_isFirstLeafOfBlock 0 = .ok (.iload_n 0, 1) := by decide +kernel
theorem dX1_isFirstLeafOfBlock_1 : decode cX1_isFirstLeafOfBlock 1 = .ok (.iconst 1, 1) := by decide +kernel
theorem dX1_isFirstLeafOfBlock_2 : decode cX1_isFirstLeafOfBlock 2 = .ok (.iconst 2, 1) := by decide +kernel
theorem dX1_isFirstLeafOfBlock_3 : decode cX1_isFirstLeafOfBlock 3 = .ok (.iload_n 1, 1) := by decide +kernel
theorem dX1_isFirstLeafOfBlock_4 : decode cX1_isFirstLeafOfBlock 4 = .ok (.imul, 1) := by decide +kernel
theorem dX1_isFirstLeafOfBlock_5 : decode cX1_isFirstLeafOfBlock 5 = .ok (.ishl, 1) := by decide +kernel
theorem dX1_isFirstLeafOfBlock_6 : decode cX1_isFirstLeafOfBlock 6 = .ok (.iconst 1, 1) := by decide +kernel
theorem dX1_isFirstLeafOfBlock_7 : decode cX1_isFirstLeafOfBlock 7 = .ok (.isub, 1) := by decide +kernel
theorem dX1_isFirstLeafOfBlock_8 : decode cX1_isFirstLeafOfBlock 8 = .ok (.iand, 1) := by decide +kernel
theorem dX1_isFirstLeafOfBlock_9 : decode cX1_isFirstLeafOfBlock 9 = .ok (.ifCond .ne 7, 3) := by decide +kernel
theorem dX1_isFirstLeafOfBlock_12 : decode cX1_isFirstLeafOfBlock 12 = .ok (.iconst 1, 1) := by decide +kernel
theorem dX1_isFirstLeafOfBlock_13 : decode cX1_isFirstLeafOfBlock 13 = .ok (.goto 4, 3) := by decide +kernel
theorem dX1_isFirstLeafOfBlock_16 : decode cX1_isFirstLeafOfBlock 16 = .ok (.iconst 0, 1) := by decide +kernel
theorem dX1_isFirstLeafOfBlock_17 : decode cX1_isFirstLeafOfBlock 17 = .ok (.ireturn, 1) := by decide +kernel
theorem dX1_removeBlock_0 : decode cX1_removeBlock 0 = .ok (.iload_n 1, 1) := by decide +kernel
theorem dX1_removeBlock_1 : decode cX1_removeBlock 1 = .ok (.ifCond .lt 17, 3) := by decide +kernel
theorem dX1_removeBlock_4 : decode cX1_removeBlock 4 = .ok (.iload_n 1, 1) := by decide +kernel
theorem dX1_removeBlock_5 : decode cX1_removeBlock 5 = .ok (.bipush 101, 2) := by decide +kernel
theorem dX1_removeBlock_7 : decode cX1_removeBlock 7 = .ok (.if_icmp .ge 11, 3) := by decide +kernel
theorem dX1_removeBlock_10 : decode cX1_removeBlock 10 = .ok (.aload_n 0, 1) := by decide +kernel
theorem dX1_removeBlock_11 : decode cX1_removeBlock 11 = .ok (.getfield 24, 3) := by decide +kernel
theorem dX1_removeBlock_14 : decode cX1_removeBlock 14 = .ok (.iload_n 1, 1) := by decide +kernel
theorem dX1_removeBlock_15 : decode cX1_removeBlock 15 = .ok (.bipush (-5), 2) := by decide +kernel
theorem dX1_removeBlock_17 : decode cX1_removeBlock 17 = .ok (.iastore, 1) := by decide +kernel
theorem dX1_removeBlock_18 : decode cX1_removeBlock 18 = .ok (.return_, 1) := by decide +kernel
set_option maxRecDepth 20000 in
theorem ggX1_blocks_X1_blocksFrom : GoodIn wsX1_blocks wsX1_blocksFrom := goodIn_r _ [5, 6, 7, 8, 9] (by decide +kernel) (by decide +kernel)
set_option maxRecDepth 20000 in
theorem gX1_blocks_X1_blocksFrom : GoodIn wsX1_blocks (wsV RX1 82 RX1 yX1_blocksFrom wsX1_blocksFrom) := goodIn_app (goodIn_of _ (by decide +kernel)) ggX1_blocks_X1_blocksFrom
theorem dX1_blocks_0 : decode cX1_blocks 0 = .ok (.aload_n 0, 1) := by decide +kernel
theorem dX1_blocks_1 : decode cX1_blocks 1 = .ok (.iconst 0, 1) := by decide +kernel
theorem dX1_blocks_2 : decode cX1_blocks 2 = .ok (.invokevirtual 82, 3) := by decide +kernel
theorem dX1_blocks_5 : decode cX1_blocks 5 = .ok (.ireturn, 1) := by decide +kernel
theorem dX1_blocksFrom_0 : decode cX1_blocksFrom 0 = .ok (.iconst 0, 1) := by decide +kernel
theorem dX1_blocksFrom_1 : decode cX1_blocksFrom 1 = .ok (.istore_n 2, 1) := by decide +kernel
theorem dX1_blocksFrom_2 : decode cX1_blocksFrom 2 = .ok (.iconst 0, 1) := by decide +kernel
theorem dX1_blocksFrom_3 : decode cX1_blocksFrom 3 = .ok (.istore_n 3, 1) := by decide +kernel
theorem dX1_blocksFrom_4 : decode cX1_blocksFrom 4 = .ok (.iload_n 3, 1) := by decide +kernel
theorem dX1_blocksFrom_5 : decode cX1_blocksFrom 5 = .ok (.bipush 101, 2) := by decide +kernel
theorem dX1_blocksFrom_7 : decode cX1_blocksFrom 7 = .ok (.if_icmp .ge 22, 3) := by decide +kernel
theorem dX1_blocksFrom_10 : decode cX1_blocksFrom 10 = .ok (.aload_n 0, 1) := by decide +kernel
theorem dX1_blocksFrom_11 : decode cX1_blocksFrom 11 = .ok (.getfield 24, 3) := by decide +kernel
theorem dX1_blocksFrom_14 : decode cX1_blocksFrom 14 = .ok (.iload_n 3, 1) := by decide +kernel
theorem dX1_blocksFrom_15 : decode cX1_blocksFrom 15 = .ok (.iaload, 1) := by decide +kernel
theorem dX1_blocksFrom_16 : decode cX1_blocksFrom 16 = .ok (.iload_n 1, 1) := by decide +kernel
theorem dX1_blocksFrom_17 : decode cX1_blocksFrom 17 = .ok (.if_icmp .lt 6, 3) := by decide +kernel
theorem dX1_blocksFrom_20 : decode cX1_blocksFrom 20 = .ok (.iinc 2 1, 3) := by decide +kernel
theorem dX1_blocksFrom_23 : decode cX1_blocksFrom 23 = .ok (.iinc 3 1, 3) := by decide +kernel
theorem dX1_blocksFrom_26 : decode cX1_blocksFrom 26 = .ok (.goto (-22), 3) := by decide +kernel
theorem dX1_blocksFrom_29 : decode cX1_blocksFrom 29 = .ok (.iload_n 2, 1) := by decide +kernel
theorem dX1_blocksFrom_30 : decode cX1_blocksFrom 30 = .ok (.ireturn, 1) := by decide +kernel
theorem dX1_has_0 : decode cX1_has 0 = .ok (.iload_n 1, 1) := by decide +kernel
theorem dX1_has_1 : decode cX1_has 1 = .ok (.ifCond .lt 27, 3) := by decide +kernel
theorem dX1_has_4 : decode cX1_has 4 = .ok (.iload_n 1, 1) := by decide +kernel
theorem dX1_has_5 : decode cX1_has 5 = .ok (.bipush 101, 2) := by decide +kernel
theorem dX1_has_7 : decode cX1_has 7 = .ok (.if_icmp .ge 21, 3) := by decide +kernel
theorem dX1_has_10 : decode cX1_has 10 = .ok (.iload_n 2, 1) := by decide +kernel
theorem dX1_has_11 : decode cX1_has 11 = .ok (.ifCond .lt 17, 3) := by decide +kernel
theorem dX1_has_14 : decode cX1_has 14 = .ok (.aload_n 0, 1) := by decide +kernel
theorem dX1_has_15 : decode cX1_has 15 = .ok (.getfield 24, 3) := by decide +kernel
theorem dX1_has_18 : decode cX1_has 18 = .ok (.iload_n 1, 1) := by decide +kernel
theorem dX1_has_19 : decode cX1_has 19 = .ok (.iaload, 1) := by decide +kernel
theorem dX1_has_20 : decode cX1_has 20 = .ok (.iload_n 2, 1) := by decide +kernel
theorem dX1_has_21 : decode cX1_has 21 = .ok (.if_icmp .ne 7, 3) := by decide +kernel
theorem dX1_has_24 : decode cX1_has 24 = .ok (.iconst 1, 1) := by decide +kernel
theorem dX1_has_25 : decode cX1_has 25 = .ok (.goto 4, 3) := by decide +kernel
theorem dX1_has_28 : decode cX1_has 28 = .ok (.iconst 0, 1) := by decide +kernel
theorem dX1_has_29 : decode cX1_has 29 = .ok (.ireturn, 1) := by decide +kernel
set_option maxRecDepth 20000 in
theorem ggX1_sharedWith_X1_has : GoodIn wsX1_sharedWith wsX1_has := goodIn_r _ [6, 1, 7, 8, 9] (by decide +kernel) (by decide +kernel)
set_option maxRecDepth 20000 in
theorem gX1_sharedWith_X1_has : GoodIn wsX1_sharedWith (wsV RX1 85 RX1 yX1_has wsX1_has) := goodIn_app (goodIn_of _ (by decide +kernel)) ggX1_sharedWith_X1_has
theorem dX1_sharedWith_0 : decode cX1_sharedWith 0 = .ok (.iconst 0, 1) := by decide +kernel
theorem dX1_sharedWith_1 : decode cX1_sharedWith 1 = .ok (.istore_n 2, 1) := by decide +kernel
theorem dX1_sharedWith_2 : decode cX1_sharedWith 2 = .ok (.iconst 0, 1) := by decide +kernel
theorem dX1_sharedWith_3 : decode cX1_sharedWith 3 = .ok (.istore_n 3, 1) := by decide +kernel
theorem dX1_sharedWith_4 : decode cX1_sharedWith 4 = .ok (.iload_n 3, 1) := by decide +kernel
theorem dX1_sharedWith_5 : decode cX1_sharedWith 5 = .ok (.bipush 101, 2) := by decide +kernel
theorem dX1_sharedWith_7 : decode cX1_sharedWith 7 = .ok (.if_icmp .ge 26, 3) := by decide +kernel
theorem dX1_sharedWith_10 : decode cX1_sharedWith 10 = .ok (.aload_n 1, 1) := by decide +kernel
theorem dX1_sharedWith_11 : decode cX1_sharedWith 11 = .ok (.iload_n 3, 1) := by decide +kernel
theorem dX1_sharedWith_12 : decode cX1_sharedWith 12 = .ok (.aload_n 0, 1) := by decide +kernel
theorem dX1_sharedWith_13 : decode cX1_sharedWith 13 = .ok (.getfield 24, 3) := by decide +kernel
theorem dX1_sharedWith_16 : decode cX1_sharedWith 16 = .ok (.iload_n 3, 1) := by decide +kernel
theorem dX1_sharedWith_17 : decode cX1_sharedWith 17 = .ok (.iaload, 1) := by decide +kernel
theorem dX1_sharedWith_18 : decode cX1_sharedWith 18 = .ok (.invokevirtual 85, 3) := by decide +kernel
theorem dX1_sharedWith_21 : decode cX1_sharedWith 21 = .ok (.ifCond .eq 6, 3) := by decide +kernel
theorem dX1_sharedWith_24 : decode cX1_sharedWith 24 = .ok (.iinc 2 1, 3) := by decide +kernel
theorem dX1_sharedWith_27 : decode cX1_sharedWith 27 = .ok (.iinc 3 1, 3) := by decide +kernel
theorem dX1_sharedWith_30 : decode cX1_sharedWith 30 = .ok (.goto (-26), 3) := by decide +kernel
theorem dX1_sharedWith_33 : decode cX1_sharedWith 33 = .ok (.iload_n 2, 1) := by decide +kernel
theorem dX1_sharedWith_34 : decode cX1_sharedWith 34 = .ok (.ireturn, 1) := by decide +kernel
theorem dX2_init_0 : decode cX2_init 0 = .ok (.aload_n 0, 1) := by decide +kernel
theorem dX2_init_1 : decode cX2_init 1 = .ok (.invokespecial 3, 3) := by decide +kernel
theorem dX2_init_4 : decode cX2_init 4 = .ok (.aload_n 0, 1) := by decide +kernel
theorem dX2_init_5 : decode cX2_init 5 = .ok (.bipush 24, 2) := by decide +kernel
theorem dX2_init_7 : decode cX2_init 7 = .ok (.anewarray 9, 3) := by decide +kernel
theorem dX2_init_10 : decode cX2_init 10 = .ok (.putfield 11, 3) := by decide +kernel
theorem dX2_init_13 : decode cX2_init 13 = .ok (.aload_n 0, 1) := by decide +kernel
theorem dX2_init_14 : decode cX2_init 14 = .ok (.iconst 0, 1) := by decide +kernel
theorem dX2_init_15 : decode cX2_init 15 = .ok (.putfield 17, 3) := by decide +kernel
theorem dX2_init_18 : decode cX2_init 18 = .ok (.aload_n 0, 1) := by decide +kernel
theorem dX2_init_19 : decode cX2_init 19 = .ok (.iconst 0, 1) := by decide +kernel
theorem dX2_init_20 : decode cX2_init 20 = .ok (.putfield 21, 3) := by decide +kernel
theorem dX2_init_23 : decode cX2_init 23 = .ok (.aload_n 0, 1) := by decide +kernel
theorem dX2_init_24 : decode cX2_init 24 = .ok (.aconst_null, 1) := by decide +kernel
theorem dX2_init_25 : decode cX2_init 25 = .ok (.putfield 24, 3) := by decide +kernel
theorem dX2_init_28 : decode cX2_init 28 = .ok (.aload_n 0, 1) := by decide +kernel
theorem dX2_init_29 : decode cX2_init 29 = .ok (.ldc 28, 2) := by decide +kernel
theorem dX2_init_31 : decode cX2_init 31 = .ok (.putfield 29, 3) := by decide +kernel
theorem dX2_init_34 : decode cX2_init 34 = .ok (.return_, 1) := by decide +kernel
theorem dX2_copyFrom_0 : decode cX2_copyFrom 0 = .ok (.iconst 0, 1) := by decide +kernel
theorem dX2_copyFrom_1 : decode cX2_copyFrom 1 = .ok (.istore_n 2, 1) := by decide +kernel
theorem dX2_copyFrom_2 : decode cX2_copyFrom 2 = .ok (.iload_n 2, 1) := by decide +kernel
theorem dX2_copyFrom_3 : decode cX2_copyFrom 3 = .ok (.bipush 24, 2) := by decide +kernel
theorem dX2_copyFrom_5 : decode cX2_copyFrom 5 = .ok (.if_icmp .ge 21, 3) := by decide +kernel
theorem dX2_copyFrom_8 : decode cX2_copyFrom 8 = .ok (.aload_n 0, 1) := by decide +kernel
theorem dX2_copyFrom_9 : decode cX2_copyFrom 9 = .ok (.getfield 11, 3) := by decide +kernel
theorem dX2_copyFrom_12 : decode cX2_copyFrom 12 = .ok (.iload_n 2, 1) := by decide +kernel
theorem dX2_copyFrom_13 : decode cX2_copyFrom 13 = .ok (.aload_n 1, 1) := by decide +kernel
theorem dX2_copyFrom_14 : decode cX2_copyFrom 14 = .ok (.getfield 11, 3) := by decide +kernel
theorem dX2_copyFrom_17 : decode cX2_copyFrom 17 = .ok (.iload_n 2, 1) := by decide +kernel
theorem dX2_copyFrom_18 : decode cX2_copyFrom 18 = .ok (.aaload, 1) := by decide +kernel
theorem dX2_copyFrom_19 : decode cX2_copyFrom 19 = .ok (.aastore, 1) := by decide +kernel
theorem dX2_copyFrom_20 : decode cX2_copyFrom 20 = .ok (.iinc 2 1, 3) := by decide +kernel
theorem dX2_copyFrom_23 : decode cX2_copyFrom 23 = .ok (.goto (-21), 3) := by decide +kernel
theorem dX2_copyFrom_26 : decode cX2_copyFrom 26 = .ok (.aload_n 0, 1) := by decide +kernel
theorem dX2_copyFrom_27 : decode cX2_copyFrom 27 = .ok (.aload_n 1, 1) := by decide +kernel
theorem dX2_copyFrom_28 : decode cX2_copyFrom 28 = .ok (.getfield 17, 3) := by decide +kernel
theorem dX2_copyFrom_31 : decode cX2_copyFrom 31 = .ok (.putfield 17, 3) := by decide +kernel
theorem dX2_copyFrom_34 : decode cX2_copyFrom 34 = .ok (.aload_n 0, 1) := by decide +kernel
theorem dX2_copyFrom_35 : decode cX2_copyFrom 35 = .ok (.aload_n 1, 1) := by decide +kernel
theorem dX2_copyFrom_36 : decode cX2_copyFrom 36 = .ok (.getfield 21, 3) := by decide +kernel
theorem dX2_copyFrom_39 : decode cX2_copyFrom 39 = .ok (.putfield 21, 3) := by decide +kernel
theorem dX2_copyFrom_42 : decode cX2_copyFrom 42 = .ok (.aload_n 0, 1) := by decide +kernel
theorem dX2_copyFrom_43 : decode cX2_copyFrom 43 = .ok (.aload_n 1, 1) := by decide +kernel
theorem dX2_copyFrom_44 : decode cX2_copyFrom 44 = .ok (.getfield 24, 3) := by decide +kernel
theorem dX2_copyFrom_47 : decode cX2_copyFrom 47 = .ok (.putfield 24, 3) := by decide +kernel
theorem dX2_copyFrom_50 : decode cX2_copyFrom 50 = .ok (.aload_n 0, 1) := by decide +kernel
theorem dX2_copyFrom_51 : decode cX2_copyFrom 51 = .ok (.aload_n 1, 1) := by decide +kernel
theorem dX2_copyFrom_52 : decode cX2_copyFrom 52 = .ok (.getfield 29, 3) := by decide +kernel
theorem dX2_copyFrom_55 : decode cX2_copyFrom 55 = .ok (.putfield 29, 3) := by decide +kernel
theorem dX2_copyFrom_58 : decode cX2_copyFrom 58 = .ok (.return_, 1) := by decide +kernel
theorem dX2_isFull_0 : decode cX2_isFull 0 = .ok (.aload_n 0, 1) := by decide +kernel
theorem dX2_isFull_1 : decode cX2_isFull 1 = .ok (.getfield 17, 3) := by decide +kernel
theorem dX2_isFull_4 : decode cX2_isFull 4 = .ok (.bipush 24, 2) := by decide +kernel
theorem dX2_isFull_6 : decode cX2_isFull 6 = .ok (.if_icmp .lt 7, 3) := by decide +kernel
theorem dX2_isFull_9 : decode cX2_isFull 9 = .ok (.iconst 1, 1) := by decide +kernel
theorem dX2_isFull_10 : decode cX2_isFull 10 = .ok (.goto 4, 3) := by decide +kernel
theorem dX2_isFull_13 : decode cX2_isFull 13 = .ok (.iconst 0, 1) := by decide +kernel
theorem dX2_isFull_14 : decode cX2_isFull 14 = .ok (.ireturn, 1) := by decide +kernel
theorem dX2_viewOf_0 : decode cX2_viewOf 0 = .ok (.iload_n 1, 1) := by decide +kernel
theorem dX2_viewOf_1 : decode cX2_viewOf 1 = .ok (.ifCond .lt 18, 3) := by decide +kernel
theorem dX2_viewOf_4 : decode cX2_viewOf 4 = .ok (.iload_n 1, 1) := by decide +kernel
theorem dX2_viewOf_5 : decode cX2_viewOf 5 = .ok (.bipush 24, 2) := by decide +kernel
theorem dX2_viewOf_7 : decode cX2_viewOf 7 = .ok (.if_icmp .ge 12, 3) := by decide +kernel
theorem dX2_viewOf_10 : decode cX2_viewOf 10 = .ok (.aload_n 0, 1) := by decide +kernel
theorem dX2_viewOf_11 : decode cX2_viewOf 11 = .ok (.getfield 11, 3) := by decide +kernel
theorem dX2_viewOf_14 : decode cX2_viewOf 14 = .ok (.iload_n 1, 1) := by decide +kernel
theorem dX2_viewOf_15 : decode cX2_viewOf 15 = .ok (.aaload, 1) := by decide +kernel
theorem dX2_viewOf_16 : decode cX2_viewOf 16 = .ok (.goto 4, 3) := by decide +kernel
theorem dX2_viewOf_19 : decode cX2_viewOf 19 = .ok (.aconst_null, 1) := by decide +kernel
theorem dX2_viewOf_20 : decode cX2_viewOf 20 = .ok (.areturn, 1) := by decide +kernel
theorem dX2_addView_0 : decode cX2_addView 0 = .ok (.aload_n 0, 1) := by decide +kernel
theorem dX2_addView_1 : decode cX2_addView 1 = .ok (.getfield 17, 3) := by decide +kernel
theorem dX2_addView_4 : decode cX2_addView 4 = .ok (.ifCond .lt 12, 3) := by decide +kernel
theorem dX2_addView_7 : decode cX2_addView 7 = .ok (.aload_n 0, 1) := by decide +kernel
theorem dX2_addView_8 : decode cX2_addView 8 = .ok (.getfield 17, 3) := by decide +kernel
theorem dX2_addView_11 : decode cX2_addView 11 = .ok (.bipush 24, 2) := by decide +kernel
theorem dX2_addView_13 : decode cX2_addView 13 = .ok (.if_icmp .lt 6, 3) := by decide +kernel
theorem dX2_addView_16 : decode cX2_addView 16 = .ok (.bipush (-3), 2) := by decide +kernel
theorem dX2_addView_18 : decode cX2_addView 18 = .ok (.ireturn, 1) := by decide +kernel
theorem dX2_addView_19 : decode cX2_addView 19 = .ok (.aload_n 0, 1) := by decide +kernel
theorem dX2_addView_20 : decode cX2_addView 20 = .ok (.getfield 11, 3) := by decide +kernel
theorem dX2_addView_23 : decode cX2_addView 23 = .ok (.aload_n 0, 1) := by decide +kernel
theorem dX2_addView_24 : decode cX2_addView 24 = .ok (.getfield 17, 3) := by decide +kernel
theorem dX2_addView_27 : decode cX2_addView 27 = .ok (.aload_n 1, 1) := by decide +kernel
theorem dX2_addView_28 : decode cX2_addView 28 = .ok (.aastore, 1) := by decide +kernel
theorem dX2_addView_29 : decode cX2_addView 29 = .ok (.aload_n 0, 1) := by decide +kernel
theorem dX2_addView_30 : decode cX2_addView 30 = .ok (.dup, 1) := by decide +kernel
theorem dX2_addView_31 : decode cX2_addView 31 = .ok (.getfield 17, 3) := by decide +kernel
theorem dX2_addView_34 : decode cX2_addView 34 = .ok (.iconst 1, 1) := by decide +kernel
theorem dX2_addView_35 : decode cX2_addView 35 = .ok (.iadd, 1) := by decide +kernel
theorem dX2_addView_36 : decode cX2_addView 36 = .ok (.putfield 17, 3) := by decide +kernel
theorem dX2_addView_39 : decode cX2_addView 39 = .ok (.aload_n 0, 1) := by decide +kernel
theorem dX2_addView_40 : decode cX2_addView 40 = .ok (.getfield 17, 3) := by decide +kernel
theorem dX2_addView_43 : decode cX2_addView 43 = .ok (.iconst 1, 1) := by decide +kernel
theorem dX2_addView_44 : decode cX2_addView 44 = .ok (.isub, 1) := by decide +kernel
theorem dX2_addView_45 : decode cX2_addView 45 = .ok (.ireturn, 1) := by decide +kernel
theorem dX2_removeView_0 : decode cX2_removeView 0 = .ok (.iload_n 1, 1) := by decide +kernel
theorem dX2_removeView_1 : decode cX2_removeView 1 = .ok (.ifCond .lt 16, 3) := by decide +kernel
theorem dX2_removeView_4 : decode cX2_removeView 4 = .ok (.iload_n 1, 1) := by decide +kernel
theorem dX2_removeView_5 : decode cX2_removeView 5 = .ok (.bipush 24, 2) := by decide +kernel
theorem dX2_removeView_7 : decode cX2_removeView 7 = .ok (.if_icmp .ge 10, 3) := by decide +kernel
theorem dX2_removeView_10 : decode cX2_removeView 10 = .ok (.aload_n 0, 1) := by decide +kernel
theorem dX2_removeView_11 : decode cX2_removeView 11 = .ok (.getfield 11, 3) := by decide +kernel
theorem dX2_removeView_14 : decode cX2_removeView 14 = .ok (.iload_n 1, 1) := by decide +kernel
theorem dX2_removeView_15 : decode cX2_removeView 15 = .ok (.aconst_null, 1) := by decide +kernel
theorem dX2_removeView_16 : decode cX2_removeView 16 = .ok (.aastore, 1) := by decide +kernel
theorem dX2_removeView_17 : decode cX2_removeView 17 = .ok (.return_, 1) := by decide +kernel
theorem dX2_viewsLeft_0 : decode cX2_viewsLeft 0 = .ok (.iconst 0, 1) := by decide +kernel
theorem dX2_viewsLeft_1 : decode cX2_viewsLeft 1 = .ok (.istore_n 1, 1) := by decide +kernel
theorem dX2_viewsLeft_2 : decode cX2_viewsLeft 2 = .ok (.iconst 0, 1) := by decide +kernel
theorem dX2_viewsLeft_3 : decode cX2_viewsLeft 3 = .ok (.istore_n 2, 1) := by decide +kernel
theorem dX2_viewsLeft_4 : decode cX2_viewsLeft 4 = .ok (.iload_n 2, 1) := by decide +kernel
theorem dX2_viewsLeft_5 : decode cX2_viewsLeft 5 = .ok (.bipush 24, 2) := by decide +kernel
theorem dX2_viewsLeft_7 : decode cX2_viewsLeft 7 = .ok (.if_icmp .ge 21, 3) := by decide +kernel
theorem dX2_viewsLeft_10 : decode cX2_viewsLeft 10 = .ok (.aload_n 0, 1) := by decide +kernel
theorem dX2_viewsLeft_11 : decode cX2_viewsLeft 11 = .ok (.getfield 11, 3) := by decide +kernel
theorem dX2_viewsLeft_14 : decode cX2_viewsLeft 14 = .ok (.iload_n 2, 1) := by decide +kernel
theorem dX2_viewsLeft_15 : decode cX2_viewsLeft 15 = .ok (.aaload, 1) := by decide +kernel
theorem dX2_viewsLeft_16 : decode cX2_viewsLeft 16 = .ok (.ifnull 6, 3) := by decide +kernel
theorem dX2_viewsLeft_19 : decode cX2_viewsLeft 19 = .ok (.iinc 1 1, 3) := by decide +kernel
theorem dX2_viewsLeft_22 : decode cX2_viewsLeft 22 = .ok (.iinc 2 1, 3) := by decide +kernel
theorem dX2_viewsLeft_25 : decode cX2_viewsLeft 25 = .ok (.goto (-21), 3) := by decide +kernel
theorem dX2_viewsLeft_28 : decode cX2_viewsLeft 28 = .ok (.iload_n 1, 1) := by decide +kernel
theorem dX2_viewsLeft_29 : decode cX2_viewsLeft 29 = .ok (.ireturn, 1) := by decide +kernel
theorem dX2_valuesShown_0 : decode cX2_valuesShown 0 = .ok (.iconst 0, 1) := by decide +kernel
theorem dX2_valuesShown_1 : decode cX2_valuesShown 1 = .ok (.istore_n 1, 1) := by decide +kernel
theorem dX2_valuesShown_2 : decode cX2_valuesShown 2 = .ok (.iconst 0, 1) := by decide +kernel
theorem dX2_valuesShown_3 : decode cX2_valuesShown 3 = .ok (.istore_n 2, 1) := by decide +kernel
theorem dX2_valuesShown_4 : decode cX2_valuesShown 4 = .ok (.iload_n 2, 1) := by decide +kernel
theorem dX2_valuesShown_5 : decode cX2_valuesShown 5 = .ok (.bipush 24, 2) := by decide +kernel
theorem dX2_valuesShown_7 : decode cX2_valuesShown 7 = .ok (.if_icmp .ge 31, 3) := by decide +kernel
theorem dX2_valuesShown_10 : decode cX2_valuesShown 10 = .ok (.aload_n 0, 1) := by decide +kernel
theorem dX2_valuesShown_11 : decode cX2_valuesShown 11 = .ok (.getfield 11, 3) := by decide +kernel
theorem dX2_valuesShown_14 : decode cX2_valuesShown 14 = .ok (.iload_n 2, 1) := by decide +kernel
theorem dX2_valuesShown_15 : decode cX2_valuesShown 15 = .ok (.aaload, 1) := by decide +kernel
theorem dX2_valuesShown_16 : decode cX2_valuesShown 16 = .ok (.astore_n 3, 1) := by decide +kernel
theorem dX2_valuesShown_17 : decode cX2_valuesShown 17 = .ok (.iload_n 1, 1) := by decide +kernel
theorem dX2_valuesShown_18 : decode cX2_valuesShown 18 = .ok (.aload_n 3, 1) := by decide +kernel
theorem dX2_valuesShown_19 : decode cX2_valuesShown 19 = .ok (.ifnonnull 7, 3) := by decide +kernel
theorem dX2_valuesShown_22 : decode cX2_valuesShown 22 = .ok (.iconst 0, 1) := by decide +kernel
theorem dX2_valuesShown_23 : decode cX2_valuesShown 23 = .ok (.goto 7, 3) := by decide +kernel
theorem dX2_valuesShown_26 : decode cX2_valuesShown 26 = .ok (.aload_n 3, 1) := by decide +kernel
theorem dX2_valuesShown_27 : decode cX2_valuesShown 27 = .ok (.getfield 32, 3) := by decide +kernel
theorem dX2_valuesShown_30 : decode cX2_valuesShown 30 = .ok (.iadd, 1) := by decide +kernel
theorem dX2_valuesShown_31 : decode cX2_valuesShown 31 = .ok (.istore_n 1, 1) := by decide +kernel
theorem dX2_valuesShown_32 : decode cX2_valuesShown 32 = .ok (.iinc 2 1, 3) := by decide +kernel
theorem dX2_valuesShown_35 : decode cX2_valuesShown 35 = .ok (.goto (-31), 3) := by decide +kernel
theorem dX2_valuesShown_38 : decode cX2_valuesShown 38 = .ok (.iload_n 1, 1) := by decide +kernel
theorem dX2_valuesShown_39 : decode cX2_valuesShown 39 = .ok (.ireturn, 1) := by decide +kernel
set_option maxRecDepth 20000 in
theorem ggX2_rowWith_X1_copy : GoodIn wsX2_rowWith wsX1_copy := goodIn_r _ [7, 8, 9, 6, 10, 11, 12, 13, 14, 15, 16, 17, 18, 19, 20, 21, 22, 23, 24, 25, 26, 27, 28, 29, 30, 31, 32, 33, 34, 70, 71, 72] (by decide +kernel) (by decide +kernel)
set_option maxRecDepth 20000 in
theorem gX2_rowWith_X1_copy : GoodIn wsX2_rowWith (wsV RX2 35 RX1 yX1_copy wsX1_copy) := goodIn_app (goodIn_of _ (by decide +kernel)) ggX2_rowWith_X1_copy
set_option maxRecDepth 20000 in
theorem ggX2_rowWith_X1_write : GoodIn wsX2_rowWith wsX1_write := goodIn_r _ [38, 10, 25, 39, 40, 41, 6, 42, 43, 44, 45, 46, 47, 48, 49, 50, 51, 52, 53, 54, 55, 56, 57, 58, 59, 60, 61, 62, 63, 64, 26, 70, 71, 72] (by decide +kernel) (by decide +kernel)
set_option maxRecDepth 20000 in
theorem gX2_rowWith_X1_write : GoodIn wsX2_rowWith (wsV RX2 41 RX1 yX1_write wsX1_write) := goodIn_app (goodIn_of _ (by decide +kernel)) ggX2_rowWith_X1_write
theorem dX2_rowWith_0 : decode cX2_rowWith 0 = .ok (.aload_n 1, 1) := by decide +kernel
theorem dX2_rowWith_1 : decode cX2_rowWith 1 = .ok (.iconst 1, 1) := by decide +kernel
theorem dX2_rowWith_2 : decode cX2_rowWith 2 = .ok (.invokevirtual 35, 3) := by decide +kernel
theorem dX2_rowWith_5 : decode cX2_rowWith 5 = .ok (.astore 4, 2) := by decide +kernel
theorem dX2_rowWith_7 : decode cX2_rowWith 7 = .ok (.aload_n 0, 1) := by decide +kernel
theorem dX2_rowWith_8 : decode cX2_rowWith 8 = .ok (.dup, 1) := by decide +kernel
theorem dX2_rowWith_9 : decode cX2_rowWith 9 = .ok (.getfield 21, 3) := by decide +kernel
theorem dX2_rowWith_12 : decode cX2_rowWith 12 = .ok (.aload 4, 2) := by decide +kernel
theorem dX2_rowWith_14 : decode cX2_rowWith 14 = .ok (.iload_n 2, 1) := by decide +kernel
theorem dX2_rowWith_15 : decode cX2_rowWith 15 = .ok (.iload_n 3, 1) := by decide +kernel
theorem dX2_rowWith_16 : decode cX2_rowWith 16 = .ok (.aload_n 0, 1) := by decide +kernel
theorem dX2_rowWith_17 : decode cX2_rowWith 17 = .ok (.getfield 21, 3) := by decide +kernel
theorem dX2_rowWith_20 : decode cX2_rowWith 20 = .ok (.ldc 28, 2) := by decide +kernel
theorem dX2_rowWith_22 : decode cX2_rowWith 22 = .ok (.invokevirtual 41, 3) := by decide +kernel
theorem dX2_rowWith_25 : decode cX2_rowWith 25 = .ok (.iadd, 1) := by decide +kernel
theorem dX2_rowWith_26 : decode cX2_rowWith 26 = .ok (.putfield 21, 3) := by decide +kernel
theorem dX2_rowWith_29 : decode cX2_rowWith 29 = .ok (.aload 4, 2) := by decide +kernel
theorem dX2_rowWith_31 : decode cX2_rowWith 31 = .ok (.areturn, 1) := by decide +kernel
set_option maxRecDepth 20000 in
theorem ggX2_rowWithoutLast_X1_copy : GoodIn wsX2_rowWithoutLast wsX1_copy := goodIn_r _ [7, 8, 9, 6, 10, 11, 12, 13, 14, 15, 16, 17, 18, 19, 20, 21, 22, 23, 24, 25, 26, 27, 28, 29, 30, 31, 32, 33, 34, 73, 74, 75] (by decide +kernel) (by decide +kernel)
set_option maxRecDepth 20000 in
theorem gX2_rowWithoutLast_X1_copy : GoodIn wsX2_rowWithoutLast (wsV RX2 35 RX1 yX1_copy wsX1_copy) := goodIn_app (goodIn_of _ (by decide +kernel)) ggX2_rowWithoutLast_X1_copy
set_option maxRecDepth 20000 in
theorem ggX2_rowWithoutLast_X1_removeLast : GoodIn wsX2_rowWithoutLast wsX1_removeLast := goodIn_r _ [38, 10, 39, 40, 41, 6, 42, 43, 44, 45, 46, 47, 48, 49, 50, 51, 52, 53, 54, 55, 56, 57, 58, 59, 60, 61, 62, 63, 26, 64, 65, 66, 67, 73, 74, 75] (by decide +kernel) (by decide +kernel)
set_option maxRecDepth 20000 in
theorem gX2_rowWithoutLast_X1_removeLast : GoodIn wsX2_rowWithoutLast (wsV RX2 45 RX1 yX1_removeLast wsX1_removeLast) := goodIn_app (goodIn_of _ (by decide +kernel)) ggX2_rowWithoutLast_X1_removeLast
theorem dX2_rowWithoutLast_0 : decode cX2_rowWithoutLast 0 = .ok (.aload_n 1, 1) := by decide +kernel
theorem dX2_rowWithoutLast_1 : decode cX2_rowWithoutLast 1 = .ok (.iconst 0, 1) := by decide +kernel
theorem dX2_rowWithoutLast_2 : decode cX2_rowWithoutLast 2 = .ok (.invokevirtual 35, 3) := by decide +kernel
theorem dX2_rowWithoutLast_5 : decode cX2_rowWithoutLast 5 = .ok (.astore_n 2, 1) := by decide +kernel
theorem dX2_rowWithoutLast_6 : decode cX2_rowWithoutLast 6 = .ok (.aload_n 0, 1) := by decide +kernel
theorem dX2_rowWithoutLast_7 : decode cX2_rowWithoutLast 7 = .ok (.dup, 1) := by decide +kernel
theorem dX2_rowWithoutLast_8 : decode cX2_rowWithoutLast 8 = .ok (.getfield 21, 3) := by decide +kernel
theorem dX2_rowWithoutLast_11 : decode cX2_rowWithoutLast 11 = .ok (.aload_n 2, 1) := by decide +kernel
theorem dX2_rowWithoutLast_12 : decode cX2_rowWithoutLast 12 = .ok (.aload_n 0, 1) := by decide +kernel
theorem dX2_rowWithoutLast_13 : decode cX2_rowWithoutLast 13 = .ok (.getfield 21, 3) := by decide +kernel
theorem dX2_rowWithoutLast_16 : decode cX2_rowWithoutLast 16 = .ok (.ldc 28, 2) := by decide +kernel
theorem dX2_rowWithoutLast_18 : decode cX2_rowWithoutLast 18 = .ok (.invokevirtual 45, 3) := by decide +kernel
theorem dX2_rowWithoutLast_21 : decode cX2_rowWithoutLast 21 = .ok (.iadd, 1) := by decide +kernel
theorem dX2_rowWithoutLast_22 : decode cX2_rowWithoutLast 22 = .ok (.putfield 21, 3) := by decide +kernel
theorem dX2_rowWithoutLast_25 : decode cX2_rowWithoutLast 25 = .ok (.aload_n 2, 1) := by decide +kernel
theorem dX2_rowWithoutLast_26 : decode cX2_rowWithoutLast 26 = .ok (.areturn, 1) := by decide +kernel
theorem dX2_beginEdit_0 : decode cX2_beginEdit 0 = .ok (.aload_n 0, 1) := by decide +kernel
theorem dX2_beginEdit_1 : decode cX2_beginEdit 1 = .ok (.aload_n 1, 1) := by decide +kernel
theorem dX2_beginEdit_2 : decode cX2_beginEdit 2 = .ok (.putfield 24, 3) := by decide +kernel
theorem dX2_beginEdit_5 : decode cX2_beginEdit 5 = .ok (.aload_n 0, 1) := by decide +kernel
theorem dX2_beginEdit_6 : decode cX2_beginEdit 6 = .ok (.aload_n 0, 1) := by decide +kernel
theorem dX2_beginEdit_7 : decode cX2_beginEdit 7 = .ok (.getfield 21, 3) := by decide +kernel
theorem dX2_beginEdit_10 : decode cX2_beginEdit 10 = .ok (.putfield 29, 3) := by decide +kernel
theorem dX2_beginEdit_13 : decode cX2_beginEdit 13 = .ok (.return_, 1) := by decide +kernel
theorem dX2_endEdit_0 : decode cX2_endEdit 0 = .ok (.aload_n 0, 1) := by decide +kernel
theorem dX2_endEdit_1 : decode cX2_endEdit 1 = .ok (.aconst_null, 1) := by decide +kernel
theorem dX2_endEdit_2 : decode cX2_endEdit 2 = .ok (.putfield 24, 3) := by decide +kernel
theorem dX2_endEdit_5 : decode cX2_endEdit 5 = .ok (.aload_n 0, 1) := by decide +kernel
theorem dX2_endEdit_6 : decode cX2_endEdit 6 = .ok (.ldc 28, 2) := by decide +kernel
theorem dX2_endEdit_8 : decode cX2_endEdit 8 = .ok (.putfield 29, 3) := by decide +kernel
theorem dX2_endEdit_11 : decode cX2_endEdit 11 = .ok (.return_, 1) := by decide +kernel
set_option maxRecDepth 20000 in
theorem ggX2_editWrite_X1_copy : GoodIn wsX2_editWrite wsX1_copy := goodIn_r _ [7, 8, 9, 6, 10, 11, 12, 13, 14, 15, 16, 17, 18, 19, 20, 21, 22, 23, 24, 25, 26, 27, 28, 29, 30, 31, 32, 33, 34, 76, 77, 78] (by decide +kernel) (by decide +kernel)
set_option maxRecDepth 20000 in
theorem gX2_editWrite_X1_copy : GoodIn wsX2_editWrite (wsV RX2 35 RX1 yX1_copy wsX1_copy) := goodIn_app (goodIn_of _ (by decide +kernel)) ggX2_editWrite_X1_copy
set_option maxRecDepth 20000 in
theorem ggX2_editWrite_X1_write : GoodIn wsX2_editWrite wsX1_write := goodIn_r _ [38, 10, 25, 39, 40, 41, 6, 42, 43, 44, 45, 46, 47, 48, 49, 50, 51, 52, 53, 54, 55, 56, 57, 58, 59, 60, 61, 62, 63, 64, 26, 76, 77, 78] (by decide +kernel) (by decide +kernel)
set_option maxRecDepth 20000 in
theorem gX2_editWrite_X1_write : GoodIn wsX2_editWrite (wsV RX2 41 RX1 yX1_write wsX1_write) := goodIn_app (goodIn_of _ (by decide +kernel)) ggX2_editWrite_X1_write
set_option maxRecDepth 20000 in
theorem ggX2_editWrite_X2_takeEditRow : GoodIn wsX2_editWrite wsX2_takeEditRow := goodIn_r _ [69, 70, 1, 71, 72, 73, 74, 75] (by decide +kernel) (by decide +kernel)
set_option maxRecDepth 20000 in
theorem gX2_editWrite_X2_takeEditRow : GoodIn wsX2_editWrite (wsV RX2 49 RX2 yX2_takeEditRow wsX2_takeEditRow) := goodIn_app (goodIn_of _ (by decide +kernel)) ggX2_editWrite_X2_takeEditRow
theorem dX2_editWrite_0 : decode cX2_editWrite 0 = .ok (.aload_n 1, 1) := by decide +kernel
theorem dX2_editWrite_1 : decode cX2_editWrite 1 = .ok (.iconst 1, 1) := by decide +kernel
theorem dX2_editWrite_2 : decode cX2_editWrite 2 = .ok (.invokevirtual 35, 3) := by decide +kernel
theorem dX2_editWrite_5 : decode cX2_editWrite 5 = .ok (.astore 4, 2) := by decide +kernel
theorem dX2_editWrite_7 : decode cX2_editWrite 7 = .ok (.aload_n 0, 1) := by decide +kernel
theorem dX2_editWrite_8 : decode cX2_editWrite 8 = .ok (.aload 4, 2) := by decide +kernel
theorem dX2_editWrite_10 : decode cX2_editWrite 10 = .ok (.aload 4, 2) := by decide +kernel
theorem dX2_editWrite_12 : decode cX2_editWrite 12 = .ok (.iload_n 2, 1) := by decide +kernel
theorem dX2_editWrite_13 : decode cX2_editWrite 13 = .ok (.iload_n 3, 1) := by decide +kernel
theorem dX2_editWrite_14 : decode cX2_editWrite 14 = .ok (.aload_n 0, 1) := by decide +kernel
theorem dX2_editWrite_15 : decode cX2_editWrite 15 = .ok (.getfield 21, 3) := by decide +kernel
theorem dX2_editWrite_18 : decode cX2_editWrite 18 = .ok (.aload_n 0, 1) := by decide +kernel
theorem dX2_editWrite_19 : decode cX2_editWrite 19 = .ok (.getfield 29, 3) := by decide +kernel
theorem dX2_editWrite_22 : decode cX2_editWrite 22 = .ok (.invokevirtual 41, 3) := by decide +kernel
theorem dX2_editWrite_25 : decode cX2_editWrite 25 = .ok (.invokevirtual 49, 3) := by decide +kernel
theorem dX2_editWrite_28 : decode cX2_editWrite 28 = .ok (.ireturn, 1) := by decide +kernel
set_option maxRecDepth 20000 in
theorem ggX2_editRemoveLast_X1_copy : GoodIn wsX2_editRemoveLast wsX1_copy := goodIn_r _ [7, 8, 9, 6, 10, 11, 12, 13, 14, 15, 16, 17, 18, 19, 20, 21, 22, 23, 24, 25, 26, 27, 28, 29, 30, 31, 32, 33, 34, 79, 80, 81] (by decide +kernel) (by decide +kernel)
set_option maxRecDepth 20000 in
theorem gX2_editRemoveLast_X1_copy : GoodIn wsX2_editRemoveLast (wsV RX2 35 RX1 yX1_copy wsX1_copy) := goodIn_app (goodIn_of _ (by decide +kernel)) ggX2_editRemoveLast_X1_copy
set_option maxRecDepth 20000 in
theorem ggX2_editRemoveLast_X1_removeLast : GoodIn wsX2_editRemoveLast wsX1_removeLast := goodIn_r _ [38, 10, 39, 40, 41, 6, 42, 43, 44, 45, 46, 47, 48, 49, 50, 51, 52, 53, 54, 55, 56, 57, 58, 59, 60, 61, 62, 63, 26, 64, 65, 66, 67, 79, 80, 81] (by decide +kernel) (by decide +kernel)
set_option maxRecDepth 20000 in
theorem gX2_editRemoveLast_X1_removeLast : GoodIn wsX2_editRemoveLast (wsV RX2 45 RX1 yX1_removeLast wsX1_removeLast) := goodIn_app (goodIn_of _ (by decide +kernel)) ggX2_editRemoveLast_X1_removeLast
set_option maxRecDepth 20000 in
theorem ggX2_editRemoveLast_X2_takeEditRow : GoodIn wsX2_editRemoveLast wsX2_takeEditRow := goodIn_r _ [72, 73, 1, 74, 75, 76, 77, 78] (by decide +kernel) (by decide +kernel)
set_option maxRecDepth 20000 in
theorem gX2_editRemoveLast_X2_takeEditRow : GoodIn wsX2_editRemoveLast (wsV RX2 49 RX2 yX2_takeEditRow wsX2_takeEditRow) := goodIn_app (goodIn_of _ (by decide +kernel)) ggX2_editRemoveLast_X2_takeEditRow
theorem dX2_editRemoveLast_0 : decode cX2_editRemoveLast 0 = .ok (.aload_n 1, 1) := by decide +kernel
theorem dX2_editRemoveLast_1 : decode cX2_editRemoveLast 1 = .ok (.iconst 0, 1) := by decide +kernel
theorem dX2_editRemoveLast_2 : decode cX2_editRemoveLast 2 = .ok (.invokevirtual 35, 3) := by decide +kernel
theorem dX2_editRemoveLast_5 : decode cX2_editRemoveLast 5 = .ok (.astore_n 2, 1) := by decide +kernel
theorem dX2_editRemoveLast_6 : decode cX2_editRemoveLast 6 = .ok (.aload_n 0, 1) := by decide +kernel
theorem dX2_editRemoveLast_7 : decode cX2_editRemoveLast 7 = .ok (.aload_n 2, 1) := by decide +kernel
theorem dX2_editRemoveLast_8 : decode cX2_editRemoveLast 8 = .ok (.aload_n 2, 1) := by decide +kernel
theorem dX2_editRemoveLast_9 : decode cX2_editRemoveLast 9 = .ok (.aload_n 0, 1) := by decide +kernel
theorem dX2_editRemoveLast_10 : decode cX2_editRemoveLast 10 = .ok (.getfield 21, 3) := by decide +kernel
theorem dX2_editRemoveLast_13 : decode cX2_editRemoveLast 13 = .ok (.aload_n 0, 1) := by decide +kernel
theorem dX2_editRemoveLast_14 : decode cX2_editRemoveLast 14 = .ok (.getfield 29, 3) := by decide +kernel
theorem dX2_editRemoveLast_17 : decode cX2_editRemoveLast 17 = .ok (.invokevirtual 45, 3) := by decide +kernel
theorem dX2_editRemoveLast_20 : decode cX2_editRemoveLast 20 = .ok (.invokevirtual 49, 3) := by decide +kernel
theorem dX2_editRemoveLast_23 : decode cX2_editRemoveLast 23 = .ok (.ireturn, 1) := by decide +kernel
set_option maxRecDepth 20000 in
theorem ggX2_editAppendAll_X1_copy : GoodIn wsX2_editAppendAll wsX1_copy := goodIn_r _ [8, 9, 10, 7, 11, 12, 13, 14, 15, 16, 17, 18, 19, 20, 21, 22, 23, 24, 25, 26, 27, 28, 29, 30, 31, 32, 33, 34, 35, 72, 73, 74] (by decide +kernel) (by decide +kernel)
set_option maxRecDepth 20000 in
theorem gX2_editAppendAll_X1_copy : GoodIn wsX2_editAppendAll (wsV RX2 35 RX1 yX1_copy wsX1_copy) := goodIn_app (goodIn_of _ (by decide +kernel)) ggX2_editAppendAll_X1_copy
set_option maxRecDepth 20000 in
theorem ggX2_editAppendAll_X1_write : GoodIn wsX2_editAppendAll wsX1_write := goodIn_r _ [39, 11, 26, 40, 41, 42, 7, 43, 44, 45, 46, 47, 48, 49, 50, 51, 52, 53, 54, 55, 56, 57, 58, 59, 60, 61, 62, 63, 64, 65, 27, 72, 73, 74] (by decide +kernel) (by decide +kernel)
set_option maxRecDepth 20000 in
theorem gX2_editAppendAll_X1_write : GoodIn wsX2_editAppendAll (wsV RX2 41 RX1 yX1_write wsX1_write) := goodIn_app (goodIn_of _ (by decide +kernel)) ggX2_editAppendAll_X1_write
set_option maxRecDepth 20000 in
theorem ggX2_editAppendAll_X2_takeEditRow : GoodIn wsX2_editAppendAll wsX2_takeEditRow := goodIn_r _ [70, 71, 2, 75, 76, 77, 78, 79] (by decide +kernel) (by decide +kernel)
set_option maxRecDepth 20000 in
theorem gX2_editAppendAll_X2_takeEditRow : GoodIn wsX2_editAppendAll (wsV RX2 49 RX2 yX2_takeEditRow wsX2_takeEditRow) := goodIn_app (goodIn_of _ (by decide +kernel)) ggX2_editAppendAll_X2_takeEditRow
theorem dX2_editAppendAll_0 : decode cX2_editAppendAll 0 = .ok (.aload_n 1, 1) := by decide +kernel
theorem dX2_editAppendAll_1 : decode cX2_editAppendAll 1 = .ok (.aload_n 2, 1) := by decide +kernel
theorem dX2_editAppendAll_2 : decode cX2_editAppendAll 2 = .ok (.arraylength, 1) := by decide +kernel
theorem dX2_editAppendAll_3 : decode cX2_editAppendAll 3 = .ok (.invokevirtual 35, 3) := by decide +kernel
theorem dX2_editAppendAll_6 : decode cX2_editAppendAll 6 = .ok (.astore_n 3, 1) := by decide +kernel
theorem dX2_editAppendAll_7 : decode cX2_editAppendAll 7 = .ok (.iconst 0, 1) := by decide +kernel
theorem dX2_editAppendAll_8 : decode cX2_editAppendAll 8 = .ok (.istore 4, 2) := by decide +kernel
theorem dX2_editAppendAll_10 : decode cX2_editAppendAll 10 = .ok (.aload_n 2, 1) := by decide +kernel
theorem dX2_editAppendAll_11 : decode cX2_editAppendAll 11 = .ok (.astore 5, 2) := by decide +kernel
theorem dX2_editAppendAll_13 : decode cX2_editAppendAll 13 = .ok (.aload 5, 2) := by decide +kernel
theorem dX2_editAppendAll_15 : decode cX2_editAppendAll 15 = .ok (.arraylength, 1) := by decide +kernel
theorem dX2_editAppendAll_16 : decode cX2_editAppendAll 16 = .ok (.istore 6, 2) := by decide +kernel
theorem dX2_editAppendAll_18 : decode cX2_editAppendAll 18 = .ok (.iconst 0, 1) := by decide +kernel
theorem dX2_editAppendAll_19 : decode cX2_editAppendAll 19 = .ok (.istore 7, 2) := by decide +kernel
theorem dX2_editAppendAll_21 : decode cX2_editAppendAll 21 = .ok (.iload 7, 2) := by decide +kernel
theorem dX2_editAppendAll_23 : decode cX2_editAppendAll 23 = .ok (.iload 6, 2) := by decide +kernel
theorem dX2_editAppendAll_25 : decode cX2_editAppendAll 25 = .ok (.if_icmp .ge 42, 3) := by decide +kernel
theorem dX2_editAppendAll_28 : decode cX2_editAppendAll 28 = .ok (.aload 5, 2) := by decide +kernel
theorem dX2_editAppendAll_30 : decode cX2_editAppendAll 30 = .ok (.iload 7, 2) := by decide +kernel
theorem dX2_editAppendAll_32 : decode cX2_editAppendAll 32 = .ok (.iaload, 1) := by decide +kernel
theorem dX2_editAppendAll_33 : decode cX2_editAppendAll 33 = .ok (.istore 8, 2) := by decide +kernel
theorem dX2_editAppendAll_35 : decode cX2_editAppendAll 35 = .ok (.iload 4, 2) := by decide +kernel
theorem dX2_editAppendAll_37 : decode cX2_editAppendAll 37 = .ok (.aload_n 3, 1) := by decide +kernel
theorem dX2_editAppendAll_38 : decode cX2_editAppendAll 38 = .ok (.aload_n 3, 1) := by decide +kernel
theorem dX2_editAppendAll_39 : decode cX2_editAppendAll 39 = .ok (.getfield 53, 3) := by decide +kernel
theorem dX2_editAppendAll_42 : decode cX2_editAppendAll 42 = .ok (.iload 8, 2) := by decide +kernel
theorem dX2_editAppendAll_44 : decode cX2_editAppendAll 44 = .ok (.aload_n 0, 1) := by decide +kernel
theorem dX2_editAppendAll_45 : decode cX2_editAppendAll 45 = .ok (.getfield 21, 3) := by decide +kernel
theorem dX2_editAppendAll_48 : decode cX2_editAppendAll 48 = .ok (.iload 4, 2) := by decide +kernel
theorem dX2_editAppendAll_50 : decode cX2_editAppendAll 50 = .ok (.iadd, 1) := by decide +kernel
theorem dX2_editAppendAll_51 : decode cX2_editAppendAll 51 = .ok (.aload_n 0, 1) := by decide +kernel
theorem dX2_editAppendAll_52 : decode cX2_editAppendAll 52 = .ok (.getfield 29, 3) := by decide +kernel
theorem dX2_editAppendAll_55 : decode cX2_editAppendAll 55 = .ok (.invokevirtual 41, 3) := by decide +kernel
theorem dX2_editAppendAll_58 : decode cX2_editAppendAll 58 = .ok (.iadd, 1) := by decide +kernel
theorem dX2_editAppendAll_59 : decode cX2_editAppendAll 59 = .ok (.istore 4, 2) := by decide +kernel
theorem dX2_editAppendAll_61 : decode cX2_editAppendAll 61 = .ok (.iinc 7 1, 3) := by decide +kernel
theorem dX2_editAppendAll_64 : decode cX2_editAppendAll 64 = .ok (.goto (-43), 3) := by decide +kernel
theorem dX2_editAppendAll_67 : decode cX2_editAppendAll 67 = .ok (.aload_n 0, 1) := by decide +kernel
theorem dX2_editAppendAll_68 : decode cX2_editAppendAll 68 = .ok (.aload_n 3, 1) := by decide +kernel
theorem dX2_editAppendAll_69 : decode cX2_editAppendAll 69 = .ok (.iload 4, 2) := by decide +kernel
theorem dX2_editAppendAll_71 : decode cX2_editAppendAll 71 = .ok (.invokevirtual 49, 3) := by decide +kernel
theorem dX2_editAppendAll_74 : decode cX2_editAppendAll 74 = .ok (.ireturn, 1) := by decide +kernel
theorem dX2_takeEditRow_0 : decode cX2_takeEditRow 0 = .ok (.aload_n 0, 1) := by decide +kernel
theorem dX2_takeEditRow_1 : decode cX2_takeEditRow 1 = .ok (.aload_n 1, 1) := by decide +kernel
theorem dX2_takeEditRow_2 : decode cX2_takeEditRow 2 = .ok (.putfield 24, 3) := by decide +kernel
theorem dX2_takeEditRow_5 : decode cX2_takeEditRow 5 = .ok (.aload_n 0, 1) := by decide +kernel
theorem dX2_takeEditRow_6 : decode cX2_takeEditRow 6 = .ok (.dup, 1) := by decide +kernel
theorem dX2_takeEditRow_7 : decode cX2_takeEditRow 7 = .ok (.getfield 21, 3) := by decide +kernel
theorem dX2_takeEditRow_10 : decode cX2_takeEditRow 10 = .ok (.iload_n 2, 1) := by decide +kernel
theorem dX2_takeEditRow_11 : decode cX2_takeEditRow 11 = .ok (.iadd, 1) := by decide +kernel
theorem dX2_takeEditRow_12 : decode cX2_takeEditRow 12 = .ok (.putfield 21, 3) := by decide +kernel
theorem dX2_takeEditRow_15 : decode cX2_takeEditRow 15 = .ok (.iload_n 2, 1) := by decide +kernel
theorem dX2_takeEditRow_16 : decode cX2_takeEditRow 16 = .ok (.ireturn, 1) := by decide +kernel
set_option maxRecDepth 20000 in
theorem ggX2_rowAt_X2_viewOf : GoodIn wsX2_rowAt wsX2_viewOf := goodIn_r _ [7, 8, 13, 14, 15, 16, 17] (by decide +kernel) (by decide +kernel)
set_option maxRecDepth 20000 in
theorem gX2_rowAt_X2_viewOf : GoodIn wsX2_rowAt (wsV RX2 56 RX2 yX2_viewOf wsX2_viewOf) := goodIn_app (goodIn_of _ (by decide +kernel)) ggX2_rowAt_X2_viewOf
theorem dX2_rowAt_0 : decode cX2_rowAt 0 = .ok (.aload_n 0, 1) := by decide +kernel
theorem dX2_rowAt_1 : decode cX2_rowAt 1 = .ok (.iload_n 1, 1) := by decide +kernel
theorem dX2_rowAt_2 : decode cX2_rowAt 2 = .ok (.invokevirtual 56, 3) := by decide +kernel
theorem dX2_rowAt_5 : decode cX2_rowAt 5 = .ok (.astore_n 2, 1) := by decide +kernel
theorem dX2_rowAt_6 : decode cX2_rowAt 6 = .ok (.aload_n 2, 1) := by decide +kernel
theorem dX2_rowAt_7 : decode cX2_rowAt 7 = .ok (.ifnull 8, 3) := by decide +kernel
theorem dX2_rowAt_10 : decode cX2_rowAt 10 = .ok (.aload_n 2, 1) := by decide +kernel
theorem dX2_rowAt_11 : decode cX2_rowAt 11 = .ok (.getfield 60, 3) := by decide +kernel
theorem dX2_rowAt_14 : decode cX2_rowAt 14 = .ok (.areturn, 1) := by decide +kernel
theorem dX2_rowAt_15 : decode cX2_rowAt 15 = .ok (.iload_n 1, 1) := by decide +kernel
theorem dX2_rowAt_16 : decode cX2_rowAt 16 = .ok (.bipush 24, 2) := by decide +kernel
theorem dX2_rowAt_18 : decode cX2_rowAt 18 = .ok (.if_icmp .ne 10, 3) := by decide +kernel
theorem dX2_rowAt_21 : decode cX2_rowAt 21 = .ok (.aload_n 0, 1) := by decide +kernel
theorem dX2_rowAt_22 : decode cX2_rowAt 22 = .ok (.getfield 24, 3) := by decide +kernel
theorem dX2_rowAt_25 : decode cX2_rowAt 25 = .ok (.goto 4, 3) := by decide +kernel
theorem dX2_rowAt_28 : decode cX2_rowAt 28 = .ok (.aconst_null, 1) := by decide +kernel
theorem dX2_rowAt_29 : decode cX2_rowAt 29 = .ok (.areturn, 1) := by decide +kernel
set_option maxRecDepth 20000 in
theorem ggX2_blocksInUse_X2_rowAt : GoodIn wsX2_blocksInUse wsX2_rowAt := goodIn_r _ [5, 6, 7, 8, 9, 10, 4, 11, 12, 28, 29, 30, 31, 32, 33, 34, 35, 36] (by decide +kernel) (by decide +kernel)
set_option maxRecDepth 20000 in
theorem gX2_blocksInUse_X2_rowAt : GoodIn wsX2_blocksInUse (wsV RX2 63 RX2 yX2_rowAt wsX2_rowAt) := goodIn_app (goodIn_of _ (by decide +kernel)) ggX2_blocksInUse_X2_rowAt
set_option maxRecDepth 20000 in
theorem ggX2_blocksInUse_X2_blocksNotIn : GoodIn wsX2_blocksInUse wsX2_blocksNotIn := goodIn_r _ [16, 17, 18, 19, 20, 4, 21, 1, 2, 3, 5, 6, 7, 8, 9, 10, 11, 12, 22, 23, 24, 25, 26, 27, 37, 38, 39, 28, 29, 30, 31, 32, 33, 34, 35, 36] (by decide +kernel) (by decide +kernel)
set_option maxRecDepth 20000 in
theorem gX2_blocksInUse_X2_blocksNotIn : GoodIn wsX2_blocksInUse (wsV RX2 66 RX2 yX2_blocksNotIn wsX2_blocksNotIn) := goodIn_app (goodIn_of _ (by decide +kernel)) ggX2_blocksInUse_X2_blocksNotIn
theorem dX2_blocksInUse_0 : decode cX2_blocksInUse 0 = .ok (.iconst 0, 1) := by decide +kernel
theorem dX2_blocksInUse_1 : decode cX2_blocksInUse 1 = .ok (.istore_n 1, 1) := by decide +kernel
theorem dX2_blocksInUse_2 : decode cX2_blocksInUse 2 = .ok (.iconst 0, 1) := by decide +kernel
theorem dX2_blocksInUse_3 : decode cX2_blocksInUse 3 = .ok (.istore_n 2, 1) := by decide +kernel
theorem dX2_blocksInUse_4 : decode cX2_blocksInUse 4 = .ok (.iload_n 2, 1) := by decide +kernel
theorem dX2_blocksInUse_5 : decode cX2_blocksInUse 5 = .ok (.bipush 24, 2) := by decide +kernel
theorem dX2_blocksInUse_7 : decode cX2_blocksInUse 7 = .ok (.if_icmp .gt 32, 3) := by decide +kernel
theorem dX2_blocksInUse_10 : decode cX2_blocksInUse 10 = .ok (.aload_n 0, 1) := by decide +kernel
theorem dX2_blocksInUse_11 : decode cX2_blocksInUse 11 = .ok (.iload_n 2, 1) := by decide +kernel
theorem dX2_blocksInUse_12 : decode cX2_blocksInUse 12 = .ok (.invokevirtual 63, 3) := by decide +kernel
theorem dX2_blocksInUse_15 : decode cX2_blocksInUse 15 = .ok (.astore_n 3, 1) := by decide +kernel
theorem dX2_blocksInUse_16 : decode cX2_blocksInUse 16 = .ok (.iload_n 1, 1) := by decide +kernel
theorem dX2_blocksInUse_17 : decode cX2_blocksInUse 17 = .ok (.aload_n 3, 1) := by decide +kernel
theorem dX2_blocksInUse_18 : decode cX2_blocksInUse 18 = .ok (.ifnonnull 7, 3) := by decide +kernel
theorem dX2_blocksInUse_21 : decode cX2_blocksInUse 21 = .ok (.iconst 0, 1) := by decide +kernel
theorem dX2_blocksInUse_22 : decode cX2_blocksInUse 22 = .ok (.goto 9, 3) := by decide +kernel
theorem dX2_blocksInUse_25 : decode cX2_blocksInUse 25 = .ok (.aload_n 0, 1) := by decide +kernel
theorem dX2_blocksInUse_26 : decode cX2_blocksInUse 26 = .ok (.iload_n 2, 1) := by decide +kernel
theorem dX2_blocksInUse_27 : decode cX2_blocksInUse 27 = .ok (.aload_n 3, 1) := by decide +kernel
theorem dX2_blocksInUse_28 : decode cX2_blocksInUse 28 = .ok (.invokevirtual 66, 3) := by decide +kernel
theorem dX2_blocksInUse_31 : decode cX2_blocksInUse 31 = .ok (.iadd, 1) := by decide +kernel
theorem dX2_blocksInUse_32 : decode cX2_blocksInUse 32 = .ok (.istore_n 1, 1) := by decide +kernel
theorem dX2_blocksInUse_33 : decode cX2_blocksInUse 33 = .ok (.iinc 2 1, 3) := by decide +kernel
theorem dX2_blocksInUse_36 : decode cX2_blocksInUse 36 = .ok (.goto (-32), 3) := by decide +kernel
theorem dX2_blocksInUse_39 : decode cX2_blocksInUse 39 = .ok (.iload_n 1, 1) := by decide +kernel
theorem dX2_blocksInUse_40 : decode cX2_blocksInUse 40 = .ok (.ireturn, 1) := by decide +kernel
set_option maxRecDepth 20000 in
theorem ggX2_blocksNotIn_X2_isInOne : GoodIn wsX2_blocksNotIn wsX2_isInOne := goodIn_r _ [6, 7, 8, 9, 5, 10, 11, 12, 13, 14, 15, 16, 17, 18, 19, 20, 21, 22, 23, 27, 28, 29, 30, 31, 32, 33, 34, 35, 24, 25, 26] (by decide +kernel) (by decide +kernel)
set_option maxRecDepth 20000 in
theorem gX2_blocksNotIn_X2_isInOne : GoodIn wsX2_blocksNotIn (wsV RX2 74 RX2 yX2_isInOne wsX2_isInOne) := goodIn_app (goodIn_of _ (by decide +kernel)) ggX2_blocksNotIn_X2_isInOne
theorem dX2_blocksNotIn_0 : decode cX2_blocksNotIn 0 = .ok (.iconst 0, 1) := by decide +kernel
theorem dX2_blocksNotIn_1 : decode cX2_blocksNotIn 1 = .ok (.istore_n 3, 1) := by decide +kernel
theorem dX2_blocksNotIn_2 : decode cX2_blocksNotIn 2 = .ok (.iconst 0, 1) := by decide +kernel
theorem dX2_blocksNotIn_3 : decode cX2_blocksNotIn 3 = .ok (.istore 4, 2) := by decide +kernel
theorem dX2_blocksNotIn_5 : decode cX2_blocksNotIn 5 = .ok (.iload 4, 2) := by decide +kernel
theorem dX2_blocksNotIn_7 : decode cX2_blocksNotIn 7 = .ok (.bipush 101, 2) := by decide +kernel
theorem dX2_blocksNotIn_9 : decode cX2_blocksNotIn 9 = .ok (.if_icmp .ge 38, 3) := by decide +kernel
theorem dX2_blocksNotIn_12 : decode cX2_blocksNotIn 12 = .ok (.aload_n 2, 1) := by decide +kernel
theorem dX2_blocksNotIn_13 : decode cX2_blocksNotIn 13 = .ok (.getfield 70, 3) := by decide +kernel
theorem dX2_blocksNotIn_16 : decode cX2_blocksNotIn 16 = .ok (.iload 4, 2) := by decide +kernel
theorem dX2_blocksNotIn_18 : decode cX2_blocksNotIn 18 = .ok (.iaload, 1) := by decide +kernel
theorem dX2_blocksNotIn_19 : decode cX2_blocksNotIn 19 = .ok (.istore 5, 2) := by decide +kernel
theorem dX2_blocksNotIn_21 : decode cX2_blocksNotIn 21 = .ok (.iload 5, 2) := by decide +kernel
theorem dX2_blocksNotIn_23 : decode cX2_blocksNotIn 23 = .ok (.ifCond .lt 18, 3) := by decide +kernel
theorem dX2_blocksNotIn_26 : decode cX2_blocksNotIn 26 = .ok (.aload_n 0, 1) := by decide +kernel
theorem dX2_blocksNotIn_27 : decode cX2_blocksNotIn 27 = .ok (.iload_n 1, 1) := by decide +kernel
theorem dX2_blocksNotIn_28 : decode cX2_blocksNotIn 28 = .ok (.iload 4, 2) := by decide +kernel
theorem dX2_blocksNotIn_30 : decode cX2_blocksNotIn 30 = .ok (.iload 5, 2) := by decide +kernel
theorem dX2_blocksNotIn_32 : decode cX2_blocksNotIn 32 = .ok (.invokevirtual 74, 3) := by decide +kernel
theorem dX2_blocksNotIn_35 : decode cX2_blocksNotIn 35 = .ok (.ifCond .ne 6, 3) := by decide +kernel
theorem dX2_blocksNotIn_38 : decode cX2_blocksNotIn 38 = .ok (.iinc 3 1, 3) := by decide +kernel
theorem dX2_blocksNotIn_41 : decode cX2_blocksNotIn 41 = .ok (.iinc 4 1, 3) := by decide +kernel
theorem dX2_blocksNotIn_44 : decode cX2_blocksNotIn 44 = .ok (.goto (-39), 3) := by decide +kernel
theorem dX2_blocksNotIn_47 : decode cX2_blocksNotIn 47 = .ok (.iload_n 3, 1) := by decide +kernel
theorem dX2_blocksNotIn_48 : decode cX2_blocksNotIn 48 = .ok (.ireturn, 1) := by decide +kernel
set_option maxRecDepth 20000 in
theorem ggX2_isInOne_X2_rowAt : GoodIn wsX2_isInOne wsX2_rowAt := goodIn_r _ [5, 6, 7, 8, 9, 10, 4, 11, 12, 19, 20, 21, 22, 23, 24, 25, 26, 27] (by decide +kernel) (by decide +kernel)
set_option maxRecDepth 20000 in
theorem gX2_isInOne_X2_rowAt : GoodIn wsX2_isInOne (wsV RX2 63 RX2 yX2_rowAt wsX2_rowAt) := goodIn_app (goodIn_of _ (by decide +kernel)) ggX2_isInOne_X2_rowAt
set_option maxRecDepth 20000 in
theorem ggX2_isInOne_X1_has : GoodIn wsX2_isInOne wsX1_has := goodIn_r _ [17, 18, 28, 29, 30] (by decide +kernel) (by decide +kernel)
set_option maxRecDepth 20000 in
theorem gX2_isInOne_X1_has : GoodIn wsX2_isInOne (wsV RX2 78 RX1 yX1_has wsX1_has) := goodIn_app (goodIn_of _ (by decide +kernel)) ggX2_isInOne_X1_has
theorem dX2_isInOne_0 : decode cX2_isInOne 0 = .ok (.iconst 0, 1) := by decide +kernel
theorem dX2_isInOne_1 : decode cX2_isInOne 1 = .ok (.istore 4, 2) := by decide +kernel
theorem dX2_isInOne_3 : decode cX2_isInOne 3 = .ok (.iload 4, 2) := by decide +kernel
theorem dX2_isInOne_5 : decode cX2_isInOne 5 = .ok (.iload_n 1, 1) := by decide +kernel
theorem dX2_isInOne_6 : decode cX2_isInOne 6 = .ok (.if_icmp .ge 34, 3) := by decide +kernel
theorem dX2_isInOne_9 : decode cX2_isInOne 9 = .ok (.aload_n 0, 1) := by decide +kernel
theorem dX2_isInOne_10 : decode cX2_isInOne 10 = .ok (.iload 4, 2) := by decide +kernel
theorem dX2_isInOne_12 : decode cX2_isInOne 12 = .ok (.invokevirtual 63, 3) := by decide +kernel
theorem dX2_isInOne_15 : decode cX2_isInOne 15 = .ok (.astore 5, 2) := by decide +kernel
theorem dX2_isInOne_17 : decode cX2_isInOne 17 = .ok (.aload 5, 2) := by decide +kernel
theorem dX2_isInOne_19 : decode cX2_isInOne 19 = .ok (.ifnull 15, 3) := by decide +kernel
theorem dX2_isInOne_22 : decode cX2_isInOne 22 = .ok (.aload 5, 2) := by decide +kernel
theorem dX2_isInOne_24 : decode cX2_isInOne 24 = .ok (.iload_n 2, 1) := by decide +kernel
theorem dX2_isInOne_25 : decode cX2_isInOne 25 = .ok (.iload_n 3, 1) := by decide +kernel
theorem dX2_isInOne_26 : decode cX2_isInOne 26 = .ok (.invokevirtual 78, 3) := by decide +kernel
theorem dX2_isInOne_29 : decode cX2_isInOne 29 = .ok (.ifCond .eq 5, 3) := by decide +kernel
theorem dX2_isInOne_32 : decode cX2_isInOne 32 = .ok (.iconst 1, 1) := by decide +kernel
theorem dX2_isInOne_33 : decode cX2_isInOne 33 = .ok (.ireturn, 1) := by decide +kernel
theorem dX2_isInOne_34 : decode cX2_isInOne 34 = .ok (.iinc 4 1, 3) := by decide +kernel
theorem dX2_isInOne_37 : decode cX2_isInOne 37 = .ok (.goto (-34), 3) := by decide +kernel
theorem dX2_isInOne_40 : decode cX2_isInOne 40 = .ok (.iconst 0, 1) := by decide +kernel
theorem dX2_isInOne_41 : decode cX2_isInOne 41 = .ok (.ireturn, 1) := by decide +kernel
theorem dX3_init_0 : decode cX3_init 0 = .ok (.aload_n 0, 1) := by decide +kernel
theorem dX3_init_1 : decode cX3_init 1 = .ok (.invokespecial 3, 3) := by decide +kernel
theorem dX3_init_4 : decode cX3_init 4 = .ok (.aload_n 0, 1) := by decide +kernel
theorem dX3_init_5 : decode cX3_init 5 = .ok (.bipush 60, 2) := by decide +kernel
theorem dX3_init_7 : decode cX3_init 7 = .ok (.newarray .char, 2) := by decide +kernel
theorem dX3_init_9 : decode cX3_init 9 = .ok (.putfield 9, 3) := by decide +kernel
theorem dX3_init_12 : decode cX3_init 12 = .ok (.aload_n 0, 1) := by decide +kernel
theorem dX3_init_13 : decode cX3_init 13 = .ok (.iconst 0, 1) := by decide +kernel
theorem dX3_init_14 : decode cX3_init 14 = .ok (.putfield 15, 3) := by decide +kernel
theorem dX3_init_17 : decode cX3_init 17 = .ok (.return_, 1) := by decide +kernel
theorem dX3_add_0 : decode cX3_add 0 = .ok (.aload_n 0, 1) := by decide +kernel
theorem dX3_add_1 : decode cX3_add 1 = .ok (.getfield 15, 3) := by decide +kernel
theorem dX3_add_4 : decode cX3_add 4 = .ok (.ifCond .lt 12, 3) := by decide +kernel
theorem dX3_add_7 : decode cX3_add 7 = .ok (.aload_n 0, 1) := by decide +kernel
theorem dX3_add_8 : decode cX3_add 8 = .ok (.getfield 15, 3) := by decide +kernel
theorem dX3_add_11 : decode cX3_add 11 = .ok (.bipush 60, 2) := by decide +kernel
theorem dX3_add_13 : decode cX3_add 13 = .ok (.if_icmp .lt 5, 3) := by decide +kernel
theorem dX3_add_16 : decode cX3_add 16 = .ok (.iconst 0, 1) := by decide +kernel
theorem dX3_add_17 : decode cX3_add 17 = .ok (.ireturn, 1) := by decide +kernel
theorem dX3_add_18 : decode cX3_add 18 = .ok (.aload_n 0, 1) := by decide +kernel
theorem dX3_add_19 : decode cX3_add 19 = .ok (.getfield 9, 3) := by decide +kernel
theorem dX3_add_22 : decode cX3_add 22 = .ok (.aload_n 0, 1) := by decide +kernel
theorem dX3_add_23 : decode cX3_add 23 = .ok (.getfield 15, 3) := by decide +kernel
theorem dX3_add_26 : decode cX3_add 26 = .ok (.iload_n 1, 1) := by decide +kernel
theorem dX3_add_27 : decode cX3_add 27 = .ok (.castore, 1) := by decide +kernel
theorem dX3_add_28 : decode cX3_add 28 = .ok (.aload_n 0, 1) := by decide +kernel
theorem dX3_add_29 : decode cX3_add 29 = .ok (.dup, 1) := by decide +kernel
theorem dX3_add_30 : decode cX3_add 30 = .ok (.getfield 15, 3) := by decide +kernel
theorem dX3_add_33 : decode cX3_add 33 = .ok (.iconst 1, 1) := by decide +kernel
theorem dX3_add_34 : decode cX3_add 34 = .ok (.iadd, 1) := by decide +kernel
theorem dX3_add_35 : decode cX3_add 35 = .ok (.putfield 15, 3) := by decide +kernel
theorem dX3_add_38 : decode cX3_add 38 = .ok (.iconst 1, 1) := by decide +kernel
theorem dX3_add_39 : decode cX3_add 39 = .ok (.ireturn, 1) := by decide +kernel
theorem dX3_empty_0 : decode cX3_empty 0 = .ok (.aload_n 0, 1) := by decide +kernel
theorem dX3_empty_1 : decode cX3_empty 1 = .ok (.iconst 0, 1) := by decide +kernel
theorem dX3_empty_2 : decode cX3_empty 2 = .ok (.putfield 15, 3) := by decide +kernel
theorem dX3_empty_5 : decode cX3_empty 5 = .ok (.return_, 1) := by decide +kernel
theorem dX3_characterAt_0 : decode cX3_characterAt 0 = .ok (.iload_n 1, 1) := by decide +kernel
theorem dX3_characterAt_1 : decode cX3_characterAt 1 = .ok (.ifCond .lt 18, 3) := by decide +kernel
theorem dX3_characterAt_4 : decode cX3_characterAt 4 = .ok (.iload_n 1, 1) := by decide +kernel
theorem dX3_characterAt_5 : decode cX3_characterAt 5 = .ok (.bipush 60, 2) := by decide +kernel
theorem dX3_characterAt_7 : decode cX3_characterAt 7 = .ok (.if_icmp .ge 12, 3) := by decide +kernel
theorem dX3_characterAt_10 : decode cX3_characterAt 10 = .ok (.aload_n 0, 1) := by decide +kernel
theorem dX3_characterAt_11 : decode cX3_characterAt 11 = .ok (.getfield 9, 3) := by decide +kernel
theorem dX3_characterAt_14 : decode cX3_characterAt 14 = .ok (.iload_n 1, 1) := by decide +kernel
theorem dX3_characterAt_15 : decode cX3_characterAt 15 = .ok (.caload, 1) := by decide +kernel
theorem dX3_characterAt_16 : decode cX3_characterAt 16 = .ok (.goto 4, 3) := by decide +kernel
theorem dX3_characterAt_19 : decode cX3_characterAt 19 = .ok (.iconst 0, 1) := by decide +kernel
theorem dX3_characterAt_20 : decode cX3_characterAt 20 = .ok (.ireturn, 1) := by decide +kernel
theorem dX3_isDigit_0 : decode cX3_isDigit 0 = .ok (.iload_n 0, 1) := by decide +kernel
theorem dX3_isDigit_1 : decode cX3_isDigit 1 = .ok (.bipush 48, 2) := by decide +kernel
theorem dX3_isDigit_3 : decode cX3_isDigit 3 = .ok (.if_icmp .lt 13, 3) := by decide +kernel
theorem dX3_isDigit_6 : decode cX3_isDigit 6 = .ok (.iload_n 0, 1) := by decide +kernel
theorem dX3_isDigit_7 : decode cX3_isDigit 7 = .ok (.bipush 57, 2) := by decide +kernel
theorem dX3_isDigit_9 : decode cX3_isDigit 9 = .ok (.if_icmp .gt 7, 3) := by decide +kernel
theorem dX3_isDigit_12 : decode cX3_isDigit 12 = .ok (.iconst 1, 1) := by decide +kernel
theorem dX3_isDigit_13 : decode cX3_isDigit 13 = .ok (.goto 4, 3) := by decide +kernel
theorem dX3_isDigit_16 : decode cX3_isDigit 16 = .ok (.iconst 0, 1) := by decide +kernel
theorem dX3_isDigit_17 : decode cX3_isDigit 17 = .ok (.ireturn, 1) := by decide +kernel
set_option maxRecDepth 20000 in
theorem ggX3_fault_X3_characterAt : GoodIn wsX3_fault wsX3_characterAt := goodIn_r _ [6, 7, 11, 12] (by decide +kernel) (by decide +kernel)
set_option maxRecDepth 20000 in
theorem gX3_fault_X3_characterAt : GoodIn wsX3_fault (wsV RX3 19 RX3 yX3_characterAt wsX3_characterAt) := goodIn_app (goodIn_of _ (by decide +kernel)) ggX3_fault_X3_characterAt
set_option maxRecDepth 20000 in
theorem ggX3_fault_X3_isDigit : GoodIn wsX3_fault wsX3_isDigit := goodIn_r _ [10] (by decide +kernel) (by decide +kernel)
set_option maxRecDepth 20000 in
theorem gX3_fault_X3_isDigit : GoodIn wsX3_fault (va_wsS RX3 23 yX3_isDigit wsX3_isDigit) := goodIn_app (goodIn_of _ (by decide +kernel)) ggX3_fault_X3_isDigit
theorem dX3_fault_0 : decode cX3_fault 0 = .ok (.iconst 0, 1) := by decide +kernel
theorem dX3_fault_1 : decode cX3_fault 1 = .ok (.istore_n 1, 1) := by decide +kernel
theorem dX3_fault_2 : decode cX3_fault 2 = .ok (.iconst 0, 1) := by decide +kernel
theorem dX3_fault_3 : decode cX3_fault 3 = .ok (.istore_n 2, 1) := by decide +kernel
theorem dX3_fault_4 : decode cX3_fault 4 = .ok (.iload_n 2, 1) := by decide +kernel
theorem dX3_fault_5 : decode cX3_fault 5 = .ok (.aload_n 0, 1) := by decide +kernel
theorem dX3_fault_6 : decode cX3_fault 6 = .ok (.getfield 15, 3) := by decide +kernel
theorem dX3_fault_9 : decode cX3_fault 9 = .ok (.if_icmp .ge 81, 3) := by decide +kernel
theorem dX3_fault_12 : decode cX3_fault 12 = .ok (.aload_n 0, 1) := by decide +kernel
theorem dX3_fault_13 : decode cX3_fault 13 = .ok (.iload_n 2, 1) := by decide +kernel
theorem dX3_fault_14 : decode cX3_fault 14 = .ok (.invokevirtual 19, 3) := by decide +kernel
theorem dX3_fault_17 : decode cX3_fault 17 = .ok (.istore_n 3, 1) := by decide +kernel
theorem dX3_fault_18 : decode cX3_fault 18 = .ok (.iload_n 3, 1) := by decide +kernel
theorem dX3_fault_19 : decode cX3_fault 19 = .ok (.invokestatic 23, 3) := by decide +kernel
theorem dX3_fault_22 : decode cX3_fault 22 = .ok (.ifCond .eq 45, 3) := by decide +kernel
theorem dX3_fault_25 : decode cX3_fault 25 = .ok (.iload_n 1, 1) := by decide +kernel
theorem dX3_fault_26 : decode cX3_fault 26 = .ok (.iconst 1, 1) := by decide +kernel
theorem dX3_fault_27 : decode cX3_fault 27 = .ok (.if_icmp .ne 19, 3) := by decide +kernel
theorem dX3_fault_30 : decode cX3_fault 30 = .ok (.aload_n 0, 1) := by decide +kernel
theorem dX3_fault_31 : decode cX3_fault 31 = .ok (.iload_n 2, 1) := by decide +kernel
theorem dX3_fault_32 : decode cX3_fault 32 = .ok (.iconst 1, 1) := by decide +kernel
theorem dX3_fault_33 : decode cX3_fault 33 = .ok (.isub, 1) := by decide +kernel
theorem dX3_fault_34 : decode cX3_fault 34 = .ok (.invokevirtual 19, 3) := by decide +kernel
theorem dX3_fault_37 : decode cX3_fault 37 = .ok (.bipush 48, 2) := by decide +kernel
theorem dX3_fault_39 : decode cX3_fault 39 = .ok (.if_icmp .ne 7, 3) := by decide +kernel
theorem dX3_fault_42 : decode cX3_fault 42 = .ok (.iconst 1, 1) := by decide +kernel
theorem dX3_fault_43 : decode cX3_fault 43 = .ok (.goto 4, 3) := by decide +kernel
theorem dX3_fault_46 : decode cX3_fault 46 = .ok (.iconst 0, 1) := by decide +kernel
theorem dX3_fault_47 : decode cX3_fault 47 = .ok (.istore 4, 2) := by decide +kernel
theorem dX3_fault_49 : decode cX3_fault 49 = .ok (.iload 4, 2) := by decide +kernel
theorem dX3_fault_51 : decode cX3_fault 51 = .ok (.ifCond .ne 8, 3) := by decide +kernel
theorem dX3_fault_54 : decode cX3_fault 54 = .ok (.iload_n 1, 1) := by decide +kernel
theorem dX3_fault_55 : decode cX3_fault 55 = .ok (.iconst 3, 1) := by decide +kernel
theorem dX3_fault_56 : decode cX3_fault 56 = .ok (.if_icmp .ne 5, 3) := by decide +kernel
theorem dX3_fault_59 : decode cX3_fault 59 = .ok (.iload_n 2, 1) := by decide +kernel
theorem dX3_fault_60 : decode cX3_fault 60 = .ok (.ireturn, 1) := by decide +kernel
theorem dX3_fault_61 : decode cX3_fault 61 = .ok (.iinc 1 1, 3) := by decide +kernel
theorem dX3_fault_64 : decode cX3_fault 64 = .ok (.goto 20, 3) := by decide +kernel
theorem dX3_fault_67 : decode cX3_fault 67 = .ok (.iload_n 3, 1) := by decide +kernel
theorem dX3_fault_68 : decode cX3_fault 68 = .ok (.bipush 44, 2) := by decide +kernel
theorem dX3_fault_70 : decode cX3_fault 70 = .ok (.if_icmp .ne 12, 3) := by decide +kernel
theorem dX3_fault_73 : decode cX3_fault 73 = .ok (.iload_n 1, 1) := by decide +kernel
theorem dX3_fault_74 : decode cX3_fault 74 = .ok (.ifCond .le 8, 3) := by decide +kernel
theorem dX3_fault_77 : decode cX3_fault 77 = .ok (.iconst 0, 1) := by decide +kernel
theorem dX3_fault_78 : decode cX3_fault 78 = .ok (.istore_n 1, 1) := by decide +kernel
theorem dX3_fault_79 : decode cX3_fault 79 = .ok (.goto 5, 3) := by decide +kernel
theorem dX3_fault_82 : decode cX3_fault 82 = .ok (.iload_n 2, 1) := by decide +kernel
theorem dX3_fault_83 : decode cX3_fault 83 = .ok (.ireturn, 1) := by decide +kernel
theorem dX3_fault_84 : decode cX3_fault 84 = .ok (.iinc 2 1, 3) := by decide +kernel
theorem dX3_fault_87 : decode cX3_fault 87 = .ok (.goto (-83), 3) := by decide +kernel
theorem dX3_fault_90 : decode cX3_fault 90 = .ok (.iload_n 1, 1) := by decide +kernel
theorem dX3_fault_91 : decode cX3_fault 91 = .ok (.ifCond .ne 10, 3) := by decide +kernel
theorem dX3_fault_94 : decode cX3_fault 94 = .ok (.aload_n 0, 1) := by decide +kernel
theorem dX3_fault_95 : decode cX3_fault 95 = .ok (.getfield 15, 3) := by decide +kernel
theorem dX3_fault_98 : decode cX3_fault 98 = .ok (.goto 4, 3) := by decide +kernel
theorem dX3_fault_101 : decode cX3_fault 101 = .ok (.iconst (-1), 1) := by decide +kernel
theorem dX3_fault_102 : decode cX3_fault 102 = .ok (.ireturn, 1) := by decide +kernel
set_option maxRecDepth 20000 in
theorem ggX3_values_X3_commas : GoodIn wsX3_values wsX3_commas := goodIn_r _ [7, 2, 8, 9, 10, 6, 11, 12, 13, 14] (by decide +kernel) (by decide +kernel)
set_option maxRecDepth 20000 in
theorem gX3_values_X3_commas : GoodIn wsX3_values (wsV RX3 27 RX3 yX3_commas wsX3_commas) := goodIn_app (goodIn_of _ (by decide +kernel)) ggX3_values_X3_commas
set_option maxRecDepth 20000 in
theorem ggX3_values_X3_characterAt : GoodIn wsX3_values wsX3_characterAt := goodIn_r _ [11, 12, 13, 14] (by decide +kernel) (by decide +kernel)
set_option maxRecDepth 20000 in
theorem gX3_values_X3_characterAt : GoodIn wsX3_values (wsV RX3 19 RX3 yX3_characterAt wsX3_characterAt) := goodIn_app (goodIn_of _ (by decide +kernel)) ggX3_values_X3_characterAt
theorem dX3_values_0 : decode cX3_values 0 = .ok (.aload_n 0, 1) := by decide +kernel
theorem dX3_values_1 : decode cX3_values 1 = .ok (.invokevirtual 27, 3) := by decide +kernel
theorem dX3_values_4 : decode cX3_values 4 = .ok (.iconst 1, 1) := by decide +kernel
theorem dX3_values_5 : decode cX3_values 5 = .ok (.iadd, 1) := by decide +kernel
theorem dX3_values_6 : decode cX3_values 6 = .ok (.newarray .int, 2) := by decide +kernel
theorem dX3_values_8 : decode cX3_values 8 = .ok (.astore_n 1, 1) := by decide +kernel
theorem dX3_values_9 : decode cX3_values 9 = .ok (.iconst 0, 1) := by decide +kernel
theorem dX3_values_10 : decode cX3_values 10 = .ok (.istore_n 2, 1) := by decide +kernel
theorem dX3_values_11 : decode cX3_values 11 = .ok (.iconst 0, 1) := by decide +kernel
theorem dX3_values_12 : decode cX3_values 12 = .ok (.istore_n 3, 1) := by decide +kernel
theorem dX3_values_13 : decode cX3_values 13 = .ok (.iload_n 3, 1) := by decide +kernel
theorem dX3_values_14 : decode cX3_values 14 = .ok (.aload_n 0, 1) := by decide +kernel
theorem dX3_values_15 : decode cX3_values 15 = .ok (.getfield 15, 3) := by decide +kernel
theorem dX3_values_18 : decode cX3_values 18 = .ok (.if_icmp .ge 50, 3) := by decide +kernel
theorem dX3_values_21 : decode cX3_values 21 = .ok (.aload_n 0, 1) := by decide +kernel
theorem dX3_values_22 : decode cX3_values 22 = .ok (.iload_n 3, 1) := by decide +kernel
theorem dX3_values_23 : decode cX3_values 23 = .ok (.invokevirtual 19, 3) := by decide +kernel
theorem dX3_values_26 : decode cX3_values 26 = .ok (.istore 4, 2) := by decide +kernel
theorem dX3_values_28 : decode cX3_values 28 = .ok (.iload 4, 2) := by decide +kernel
theorem dX3_values_30 : decode cX3_values 30 = .ok (.bipush 44, 2) := by decide +kernel
theorem dX3_values_32 : decode cX3_values 32 = .ok (.if_icmp .ne 9, 3) := by decide +kernel
theorem dX3_values_35 : decode cX3_values 35 = .ok (.iinc 2 1, 3) := by decide +kernel
theorem dX3_values_38 : decode cX3_values 38 = .ok (.goto 24, 3) := by decide +kernel
theorem dX3_values_41 : decode cX3_values 41 = .ok (.iload_n 2, 1) := by decide +kernel
theorem dX3_values_42 : decode cX3_values 42 = .ok (.aload_n 1, 1) := by decide +kernel
theorem dX3_values_43 : decode cX3_values 43 = .ok (.arraylength, 1) := by decide +kernel
theorem dX3_values_44 : decode cX3_values 44 = .ok (.if_icmp .ge 18, 3) := by decide +kernel
theorem dX3_values_47 : decode cX3_values 47 = .ok (.aload_n 1, 1) := by decide +kernel
theorem dX3_values_48 : decode cX3_values 48 = .ok (.iload_n 2, 1) := by decide +kernel
theorem dX3_values_49 : decode cX3_values 49 = .ok (.aload_n 1, 1) := by decide +kernel
theorem dX3_values_50 : decode cX3_values 50 = .ok (.iload_n 2, 1) := by decide +kernel
theorem dX3_values_51 : decode cX3_values 51 = .ok (.iaload, 1) := by decide +kernel
theorem dX3_values_52 : decode cX3_values 52 = .ok (.bipush 10, 2) := by decide +kernel
theorem dX3_values_54 : decode cX3_values 54 = .ok (.imul, 1) := by decide +kernel
theorem dX3_values_55 : decode cX3_values 55 = .ok (.iload 4, 2) := by decide +kernel
theorem dX3_values_57 : decode cX3_values 57 = .ok (.bipush 48, 2) := by decide +kernel
theorem dX3_values_59 : decode cX3_values 59 = .ok (.isub, 1) := by decide +kernel
theorem dX3_values_60 : decode cX3_values 60 = .ok (.iadd, 1) := by decide +kernel
theorem dX3_values_61 : decode cX3_values 61 = .ok (.iastore, 1) := by decide +kernel
theorem dX3_values_62 : decode cX3_values 62 = .ok (.iinc 3 1, 3) := by decide +kernel
theorem dX3_values_65 : decode cX3_values 65 = .ok (.goto (-52), 3) := by decide +kernel
theorem dX3_values_68 : decode cX3_values 68 = .ok (.aload_n 1, 1) := by decide +kernel
theorem dX3_values_69 : decode cX3_values 69 = .ok (.areturn, 1) := by decide +kernel
set_option maxRecDepth 20000 in
theorem ggX3_commas_X3_characterAt : GoodIn wsX3_commas wsX3_characterAt := goodIn_r _ [6, 7, 8, 9] (by decide +kernel) (by decide +kernel)
set_option maxRecDepth 20000 in
theorem gX3_commas_X3_characterAt : GoodIn wsX3_commas (wsV RX3 19 RX3 yX3_characterAt wsX3_characterAt) := goodIn_app (goodIn_of _ (by decide +kernel)) ggX3_commas_X3_characterAt
theorem dX3_commas_0 : decode cX3_commas 0 = .ok (.iconst 0, 1) := by decide +kernel
theorem dX3_commas_1 : decode cX3_commas 1 = .ok (.istore_n 1, 1) := by decide +kernel
theorem dX3_commas_2 : decode cX3_commas 2 = .ok (.iconst 0, 1) := by decide +kernel
theorem dX3_commas_3 : decode cX3_commas 3 = .ok (.istore_n 2, 1) := by decide +kernel
theorem dX3_commas_4 : decode cX3_commas 4 = .ok (.iload_n 2, 1) := by decide +kernel
theorem dX3_commas_5 : decode cX3_commas 5 = .ok (.aload_n 0, 1) := by decide +kernel
theorem dX3_commas_6 : decode cX3_commas 6 = .ok (.getfield 15, 3) := by decide +kernel
theorem dX3_commas_9 : decode cX3_commas 9 = .ok (.if_icmp .ge 22, 3) := by decide +kernel
theorem dX3_commas_12 : decode cX3_commas 12 = .ok (.aload_n 0, 1) := by decide +kernel
theorem dX3_commas_13 : decode cX3_commas 13 = .ok (.iload_n 2, 1) := by decide +kernel
theorem dX3_commas_14 : decode cX3_commas 14 = .ok (.invokevirtual 19, 3) := by decide +kernel
theorem dX3_commas_17 : decode cX3_commas 17 = .ok (.bipush 44, 2) := by decide +kernel
theorem dX3_commas_19 : decode cX3_commas 19 = .ok (.if_icmp .ne 6, 3) := by decide +kernel
theorem dX3_commas_22 : decode cX3_commas 22 = .ok (.iinc 1 1, 3) := by decide +kernel
theorem dX3_commas_25 : decode cX3_commas 25 = .ok (.iinc 2 1, 3) := by decide +kernel
theorem dX3_commas_28 : decode cX3_commas 28 = .ok (.goto (-24), 3) := by decide +kernel
theorem dX3_commas_31 : decode cX3_commas 31 = .ok (.iload_n 1, 1) := by decide +kernel
theorem dX3_commas_32 : decode cX3_commas 32 = .ok (.ireturn, 1) := by decide +kernel
theorem dX4_init_0 : decode cX4_init 0 = .ok (.aload_n 0, 1) := by decide +kernel
theorem dX4_init_1 : decode cX4_init 1 = .ok (.invokespecial 3, 3) := by decide +kernel
theorem dX4_init_4 : decode cX4_init 4 = .ok (.aload_n 0, 1) := by decide +kernel
theorem dX4_init_5 : decode cX4_init 5 = .ok (.aload_n 1, 1) := by decide +kernel
theorem dX4_init_6 : decode cX4_init 6 = .ok (.putfield 9, 3) := by decide +kernel
theorem dX4_init_9 : decode cX4_init 9 = .ok (.aload_n 0, 1) := by decide +kernel
theorem dX4_init_10 : decode cX4_init 10 = .ok (.iload_n 2, 1) := by decide +kernel
theorem dX4_init_11 : decode cX4_init 11 = .ok (.putfield 15, 3) := by decide +kernel
theorem dX4_init_14 : decode cX4_init 14 = .ok (.aload_n 0, 1) := by decide +kernel
theorem dX4_init_15 : decode cX4_init 15 = .ok (.iload_n 3, 1) := by decide +kernel
theorem dX4_init_16 : decode cX4_init 16 = .ok (.putfield 19, 3) := by decide +kernel
theorem dX4_init_19 : decode cX4_init 19 = .ok (.aload_n 0, 1) := by decide +kernel
theorem dX4_init_20 : decode cX4_init 20 = .ok (.iload 4, 2) := by decide +kernel
theorem dX4_init_22 : decode cX4_init 22 = .ok (.putfield 23, 3) := by decide +kernel
theorem dX4_init_25 : decode cX4_init 25 = .ok (.return_, 1) := by decide +kernel
theorem dX4_end_0 : decode cX4_end 0 = .ok (.aload_n 0, 1) := by decide +kernel
theorem dX4_end_1 : decode cX4_end 1 = .ok (.getfield 19, 3) := by decide +kernel
theorem dX4_end_4 : decode cX4_end 4 = .ok (.aload_n 0, 1) := by decide +kernel
theorem dX4_end_5 : decode cX4_end 5 = .ok (.getfield 23, 3) := by decide +kernel
theorem dX4_end_8 : decode cX4_end 8 = .ok (.iadd, 1) := by decide +kernel
theorem dX4_end_9 : decode cX4_end 9 = .ok (.ireturn, 1) := by decide +kernel
theorem dX4_shows_0 : decode cX4_shows 0 = .ok (.iload_n 1, 1) := by decide +kernel
theorem dX4_shows_1 : decode cX4_shows 1 = .ok (.ifCond .lt 15, 3) := by decide +kernel
theorem dX4_shows_4 : decode cX4_shows 4 = .ok (.iload_n 1, 1) := by decide +kernel
theorem dX4_shows_5 : decode cX4_shows 5 = .ok (.aload_n 0, 1) := by decide +kernel
theorem dX4_shows_6 : decode cX4_shows 6 = .ok (.getfield 23, 3) := by decide +kernel
theorem dX4_shows_9 : decode cX4_shows 9 = .ok (.if_icmp .ge 7, 3) := by decide +kernel
theorem dX4_shows_12 : decode cX4_shows 12 = .ok (.iconst 1, 1) := by decide +kernel
theorem dX4_shows_13 : decode cX4_shows 13 = .ok (.goto 4, 3) := by decide +kernel
theorem dX4_shows_16 : decode cX4_shows 16 = .ok (.iconst 0, 1) := by decide +kernel
theorem dX4_shows_17 : decode cX4_shows 17 = .ok (.ireturn, 1) := by decide +kernel
theorem dX4_valueAt_0 : decode cX4_valueAt 0 = .ok (.aload_n 0, 1) := by decide +kernel
theorem dX4_valueAt_1 : decode cX4_valueAt 1 = .ok (.getfield 19, 3) := by decide +kernel
theorem dX4_valueAt_4 : decode cX4_valueAt 4 = .ok (.iload_n 1, 1) := by decide +kernel
theorem dX4_valueAt_5 : decode cX4_valueAt 5 = .ok (.iadd, 1) := by decide +kernel
theorem dX4_valueAt_6 : decode cX4_valueAt 6 = .ok (.istore_n 2, 1) := by decide +kernel
theorem dX4_valueAt_7 : decode cX4_valueAt 7 = .ok (.iload_n 2, 1) := by decide +kernel
theorem dX4_valueAt_8 : decode cX4_valueAt 8 = .ok (.ifCond .lt 27, 3) := by decide +kernel
theorem dX4_valueAt_11 : decode cX4_valueAt 11 = .ok (.iload_n 2, 1) := by decide +kernel
theorem dX4_valueAt_12 : decode cX4_valueAt 12 = .ok (.aload_n 0, 1) := by decide +kernel
theorem dX4_valueAt_13 : decode cX4_valueAt 13 = .ok (.getfield 9, 3) := by decide +kernel
theorem dX4_valueAt_16 : decode cX4_valueAt 16 = .ok (.getfield 26, 3) := by decide +kernel
theorem dX4_valueAt_19 : decode cX4_valueAt 19 = .ok (.arraylength, 1) := by decide +kernel
theorem dX4_valueAt_20 : decode cX4_valueAt 20 = .ok (.if_icmp .ge 15, 3) := by decide +kernel
theorem dX4_valueAt_23 : decode cX4_valueAt 23 = .ok (.aload_n 0, 1) := by decide +kernel
theorem dX4_valueAt_24 : decode cX4_valueAt 24 = .ok (.getfield 9, 3) := by decide +kernel
theorem dX4_valueAt_27 : decode cX4_valueAt 27 = .ok (.getfield 26, 3) := by decide +kernel
theorem dX4_valueAt_30 : decode cX4_valueAt 30 = .ok (.iload_n 2, 1) := by decide +kernel
theorem dX4_valueAt_31 : decode cX4_valueAt 31 = .ok (.iaload, 1) := by decide +kernel
theorem dX4_valueAt_32 : decode cX4_valueAt 32 = .ok (.goto 5, 3) := by decide +kernel
theorem dX4_valueAt_35 : decode cX4_valueAt 35 = .ok (.bipush (-5), 2) := by decide +kernel
theorem dX4_valueAt_37 : decode cX4_valueAt 37 = .ok (.ireturn, 1) := by decide +kernel
set_option maxRecDepth 20000 in
theorem ggX4_sum_X4_valueAt : GoodIn wsX4_sum wsX4_valueAt := goodIn_r _ [6, 7, 8, 9, 10, 11, 12, 13, 14, 15, 16] (by decide +kernel) (by decide +kernel)
set_option maxRecDepth 20000 in
theorem gX4_sum_X4_valueAt : GoodIn wsX4_sum (wsV RX4 32 RX4 yX4_valueAt wsX4_valueAt) := goodIn_app (goodIn_of _ (by decide +kernel)) ggX4_sum_X4_valueAt
theorem dX4_sum_0 : decode cX4_sum 0 = .ok (.iconst 0, 1) := by decide +kernel
theorem dX4_sum_1 : decode cX4_sum 1 = .ok (.istore_n 1, 1) := by decide +kernel
theorem dX4_sum_2 : decode cX4_sum 2 = .ok (.iconst 0, 1) := by decide +kernel
theorem dX4_sum_3 : decode cX4_sum 3 = .ok (.istore_n 2, 1) := by decide +kernel
theorem dX4_sum_4 : decode cX4_sum 4 = .ok (.iload_n 2, 1) := by decide +kernel
theorem dX4_sum_5 : decode cX4_sum 5 = .ok (.aload_n 0, 1) := by decide +kernel
theorem dX4_sum_6 : decode cX4_sum 6 = .ok (.getfield 23, 3) := by decide +kernel
theorem dX4_sum_9 : decode cX4_sum 9 = .ok (.if_icmp .ge 17, 3) := by decide +kernel
theorem dX4_sum_12 : decode cX4_sum 12 = .ok (.iload_n 1, 1) := by decide +kernel
theorem dX4_sum_13 : decode cX4_sum 13 = .ok (.aload_n 0, 1) := by decide +kernel
theorem dX4_sum_14 : decode cX4_sum 14 = .ok (.iload_n 2, 1) := by decide +kernel
theorem dX4_sum_15 : decode cX4_sum 15 = .ok (.invokevirtual 32, 3) := by decide +kernel
theorem dX4_sum_18 : decode cX4_sum 18 = .ok (.iadd, 1) := by decide +kernel
theorem dX4_sum_19 : decode cX4_sum 19 = .ok (.istore_n 1, 1) := by decide +kernel
theorem dX4_sum_20 : decode cX4_sum 20 = .ok (.iinc 2 1, 3) := by decide +kernel
theorem dX4_sum_23 : decode cX4_sum 23 = .ok (.goto (-19), 3) := by decide +kernel
theorem dX4_sum_26 : decode cX4_sum 26 = .ok (.iload_n 1, 1) := by decide +kernel
theorem dX4_sum_27 : decode cX4_sum 27 = .ok (.ireturn, 1) := by decide +kernel
set_option maxRecDepth 20000 in
theorem ggX4_greatest_X4_valueAt : GoodIn wsX4_greatest wsX4_valueAt := goodIn_r _ [10, 11, 12, 13, 14, 15, 16, 17, 18, 19, 20] (by decide +kernel) (by decide +kernel)
set_option maxRecDepth 20000 in
theorem gX4_greatest_X4_valueAt : GoodIn wsX4_greatest (wsV RX4 32 RX4 yX4_valueAt wsX4_valueAt) := goodIn_app (goodIn_of _ (by decide +kernel)) ggX4_greatest_X4_valueAt
theorem dX4_greatest_0 : decode cX4_greatest 0 = .ok (.bipush (-5), 2) := by decide +kernel
theorem dX4_greatest_2 : decode cX4_greatest 2 = .ok (.istore_n 1, 1) := by decide +kernel
theorem dX4_greatest_3 : decode cX4_greatest 3 = .ok (.iconst 0, 1) := by decide +kernel
theorem dX4_greatest_4 : decode cX4_greatest 4 = .ok (.istore_n 2, 1) := by decide +kernel
theorem dX4_greatest_5 : decode cX4_greatest 5 = .ok (.iload_n 2, 1) := by decide +kernel
theorem dX4_greatest_6 : decode cX4_greatest 6 = .ok (.aload_n 0, 1) := by decide +kernel
theorem dX4_greatest_7 : decode cX4_greatest 7 = .ok (.getfield 23, 3) := by decide +kernel
theorem dX4_greatest_10 : decode cX4_greatest 10 = .ok (.if_icmp .ge 19, 3) := by decide +kernel
theorem dX4_greatest_13 : decode cX4_greatest 13 = .ok (.iload_n 1, 1) := by decide +kernel
theorem dX4_greatest_14 : decode cX4_greatest 14 = .ok (.aload_n 0, 1) := by decide +kernel
theorem dX4_greatest_15 : decode cX4_greatest 15 = .ok (.iload_n 2, 1) := by decide +kernel
theorem dX4_greatest_16 : decode cX4_greatest 16 = .ok (.invokevirtual 32, 3) := by decide +kernel
theorem dX4_greatest_19 : decode cX4_greatest 19 = .ok (.invokestatic 36, 3) := by decide +kernel
theorem dX4_greatest_22 : decode cX4_greatest 22 = .ok (.istore_n 1, 1) := by decide +kernel
theorem dX4_greatest_23 : decode cX4_greatest 23 = .ok (.iinc 2 1, 3) := by decide +kernel
theorem dX4_greatest_26 : decode cX4_greatest 26 = .ok (.goto (-21), 3) := by decide +kernel
theorem dX4_greatest_29 : decode cX4_greatest 29 = .ok (.iload_n 1, 1) := by decide +kernel
theorem dX4_greatest_30 : decode cX4_greatest 30 = .ok (.ireturn, 1) := by decide +kernel
set_option maxRecDepth 20000 in
theorem ggX4_firstDifference_X4_valueAt : GoodIn wsX4_firstDifference wsX4_valueAt := goodIn_r _ [10, 11, 12, 13, 14, 15, 16, 17, 18, 19, 20] (by decide +kernel) (by decide +kernel)
set_option maxRecDepth 20000 in
theorem gX4_firstDifference_X4_valueAt : GoodIn wsX4_firstDifference (wsV RX4 32 RX4 yX4_valueAt wsX4_valueAt) := goodIn_app (goodIn_of _ (by decide +kernel)) ggX4_firstDifference_X4_valueAt
theorem dX4_firstDifference_0 : decode cX4_firstDifference 0 = .ok (.aload_n 0, 1) := by decide +kernel
theorem dX4_firstDifference_1 : decode cX4_firstDifference 1 = .ok (.getfield 23, 3) := by decide +kernel
theorem dX4_firstDifference_4 : decode cX4_firstDifference 4 = .ok (.aload_n 1, 1) := by decide +kernel
theorem dX4_firstDifference_5 : decode cX4_firstDifference 5 = .ok (.getfield 23, 3) := by decide +kernel
theorem dX4_firstDifference_8 : decode cX4_firstDifference 8 = .ok (.invokestatic 42, 3) := by decide +kernel
theorem dX4_firstDifference_11 : decode cX4_firstDifference 11 = .ok (.istore_n 2, 1) := by decide +kernel
theorem dX4_firstDifference_12 : decode cX4_firstDifference 12 = .ok (.iconst 0, 1) := by decide +kernel
theorem dX4_firstDifference_13 : decode cX4_firstDifference 13 = .ok (.istore_n 3, 1) := by decide +kernel
theorem dX4_firstDifference_14 : decode cX4_firstDifference 14 = .ok (.iload_n 3, 1) := by decide +kernel
theorem dX4_firstDifference_15 : decode cX4_firstDifference 15 = .ok (.iload_n 2, 1) := by decide +kernel
theorem dX4_firstDifference_16 : decode cX4_firstDifference 16 = .ok (.if_icmp .ge 24, 3) := by decide +kernel
theorem dX4_firstDifference_19 : decode cX4_firstDifference 19 = .ok (.aload_n 0, 1) := by decide +kernel
theorem dX4_firstDifference_20 : decode cX4_firstDifference 20 = .ok (.iload_n 3, 1) := by decide +kernel
theorem dX4_firstDifference_21 : decode cX4_firstDifference 21 = .ok (.invokevirtual 32, 3) := by decide +kernel
theorem dX4_firstDifference_24 : decode cX4_firstDifference 24 = .ok (.aload_n 1, 1) := by decide +kernel
theorem dX4_firstDifference_25 : decode cX4_firstDifference 25 = .ok (.iload_n 3, 1) := by decide +kernel
theorem dX4_firstDifference_26 : decode cX4_firstDifference 26 = .ok (.invokevirtual 32, 3) := by decide +kernel
theorem dX4_firstDifference_29 : decode cX4_firstDifference 29 = .ok (.if_icmp .eq 5, 3) := by decide +kernel
theorem dX4_firstDifference_32 : decode cX4_firstDifference 32 = .ok (.iload_n 3, 1) := by decide +kernel
theorem dX4_firstDifference_33 : decode cX4_firstDifference 33 = .ok (.ireturn, 1) := by decide +kernel
theorem dX4_firstDifference_34 : decode cX4_firstDifference 34 = .ok (.iinc 3 1, 3) := by decide +kernel
theorem dX4_firstDifference_37 : decode cX4_firstDifference 37 = .ok (.goto (-23), 3) := by decide +kernel
theorem dX4_firstDifference_40 : decode cX4_firstDifference 40 = .ok (.aload_n 0, 1) := by decide +kernel
theorem dX4_firstDifference_41 : decode cX4_firstDifference 41 = .ok (.getfield 23, 3) := by decide +kernel
theorem dX4_firstDifference_44 : decode cX4_firstDifference 44 = .ok (.aload_n 1, 1) := by decide +kernel
theorem dX4_firstDifference_45 : decode cX4_firstDifference 45 = .ok (.getfield 23, 3) := by decide +kernel
theorem dX4_firstDifference_48 : decode cX4_firstDifference 48 = .ok (.if_icmp .ne 8, 3) := by decide +kernel
theorem dX4_firstDifference_51 : decode cX4_firstDifference 51 = .ok (.bipush (-5), 2) := by decide +kernel
theorem dX4_firstDifference_53 : decode cX4_firstDifference 53 = .ok (.goto 4, 3) := by decide +kernel
theorem dX4_firstDifference_56 : decode cX4_firstDifference 56 = .ok (.iload_n 2, 1) := by decide +kernel
theorem dX4_firstDifference_57 : decode cX4_firstDifference 57 = .ok (.ireturn, 1) := by decide +kernel
set_option maxRecDepth 20000 in
theorem ggX4_placeOf_X4_valueAt : GoodIn wsX4_placeOf wsX4_valueAt := goodIn_r _ [6, 7, 8, 9, 10, 11, 12, 13, 14, 15, 16] (by decide +kernel) (by decide +kernel)
set_option maxRecDepth 20000 in
theorem gX4_placeOf_X4_valueAt : GoodIn wsX4_placeOf (wsV RX4 32 RX4 yX4_valueAt wsX4_valueAt) := goodIn_app (goodIn_of _ (by decide +kernel)) ggX4_placeOf_X4_valueAt
theorem dX4_placeOf_0 : decode cX4_placeOf 0 = .ok (.iload_n 2, 1) := by decide +kernel
theorem dX4_placeOf_1 : decode cX4_placeOf 1 = .ok (.istore_n 3, 1) := by decide +kernel
theorem dX4_placeOf_2 : decode cX4_placeOf 2 = .ok (.iload_n 3, 1) := by decide +kernel
theorem dX4_placeOf_3 : decode cX4_placeOf 3 = .ok (.aload_n 0, 1) := by decide +kernel
theorem dX4_placeOf_4 : decode cX4_placeOf 4 = .ok (.getfield 23, 3) := by decide +kernel
theorem dX4_placeOf_7 : decode cX4_placeOf 7 = .ok (.if_icmp .ge 20, 3) := by decide +kernel
theorem dX4_placeOf_10 : decode cX4_placeOf 10 = .ok (.aload_n 0, 1) := by decide +kernel
theorem dX4_placeOf_11 : decode cX4_placeOf 11 = .ok (.iload_n 3, 1) := by decide +kernel
theorem dX4_placeOf_12 : decode cX4_placeOf 12 = .ok (.invokevirtual 32, 3) := by decide +kernel
theorem dX4_placeOf_15 : decode cX4_placeOf 15 = .ok (.iload_n 1, 1) := by decide +kernel
theorem dX4_placeOf_16 : decode cX4_placeOf 16 = .ok (.if_icmp .ne 5, 3) := by decide +kernel
theorem dX4_placeOf_19 : decode cX4_placeOf 19 = .ok (.iload_n 3, 1) := by decide +kernel
theorem dX4_placeOf_20 : decode cX4_placeOf 20 = .ok (.ireturn, 1) := by decide +kernel
theorem dX4_placeOf_21 : decode cX4_placeOf 21 = .ok (.iinc 3 1, 3) := by decide +kernel
theorem dX4_placeOf_24 : decode cX4_placeOf 24 = .ok (.goto (-22), 3) := by decide +kernel
theorem dX4_placeOf_27 : decode cX4_placeOf 27 = .ok (.bipush (-5), 2) := by decide +kernel
theorem dX4_placeOf_29 : decode cX4_placeOf 29 = .ok (.ireturn, 1) := by decide +kernel
theorem dJ9_max_7cf53_0 : decode cJ9_max_7cf53 0 = .ok (.iload_n 0, 1) := by decide +kernel
theorem dJ9_max_7cf53_1 : decode cJ9_max_7cf53 1 = .ok (.iload_n 1, 1) := by decide +kernel
theorem dJ9_max_7cf53_2 : decode cJ9_max_7cf53 2 = .ok (.if_icmp .lt 7, 3) := by decide +kernel
theorem dJ9_max_7cf53_5 : decode cJ9_max_7cf53 5 = .ok (.iload_n 0, 1) := by decide +kernel
theorem dJ9_max_7cf53_6 : decode cJ9_max_7cf53 6 = .ok (.goto 4, 3) := by decide +kernel
theorem dJ9_max_7cf53_9 : decode cJ9_max_7cf53 9 = .ok (.iload_n 1, 1) := by decide +kernel
theorem dJ9_max_7cf53_10 : decode cJ9_max_7cf53 10 = .ok (.ireturn, 1) := by decide +kernel
theorem dJ9_min_7cf53_0 : decode cJ9_min_7cf53 0 = .ok (.iload_n 0, 1) := by decide +kernel
theorem dJ9_min_7cf53_1 : decode cJ9_min_7cf53 1 = .ok (.iload_n 1, 1) := by decide +kernel
theorem dJ9_min_7cf53_2 : decode cJ9_min_7cf53 2 = .ok (.if_icmp .gt 7, 3) := by decide +kernel
theorem dJ9_min_7cf53_5 : decode cJ9_min_7cf53 5 = .ok (.iload_n 0, 1) := by decide +kernel
theorem dJ9_min_7cf53_6 : decode cJ9_min_7cf53 6 = .ok (.goto 4, 3) := by decide +kernel
theorem dJ9_min_7cf53_9 : decode cJ9_min_7cf53 9 = .ok (.iload_n 1, 1) := by decide +kernel
theorem dJ9_min_7cf53_10 : decode cJ9_min_7cf53 10 = .ok (.ireturn, 1) := by decide +kernel
theorem dJ7_fill_53178_0 : decode cJ7_fill_53178 0 = .ok (.iconst 0, 1) := by decide +kernel
theorem dJ7_fill_53178_1 : decode cJ7_fill_53178 1 = .ok (.istore_n 2, 1) := by decide +kernel
theorem dJ7_fill_53178_2 : decode cJ7_fill_53178 2 = .ok (.aload_n 0, 1) := by decide +kernel
theorem dJ7_fill_53178_3 : decode cJ7_fill_53178 3 = .ok (.arraylength, 1) := by decide +kernel
theorem dJ7_fill_53178_4 : decode cJ7_fill_53178 4 = .ok (.istore_n 3, 1) := by decide +kernel
theorem dJ7_fill_53178_5 : decode cJ7_fill_53178 5 = .ok (.iload_n 2, 1) := by decide +kernel
theorem dJ7_fill_53178_6 : decode cJ7_fill_53178 6 = .ok (.iload_n 3, 1) := by decide +kernel
theorem dJ7_fill_53178_7 : decode cJ7_fill_53178 7 = .ok (.if_icmp .ge 13, 3) := by decide +kernel
theorem dJ7_fill_53178_10 : decode cJ7_fill_53178 10 = .ok (.aload_n 0, 1) := by decide +kernel
theorem dJ7_fill_53178_11 : decode cJ7_fill_53178 11 = .ok (.iload_n 2, 1) := by decide +kernel
theorem dJ7_fill_53178_12 : decode cJ7_fill_53178 12 = .ok (.iload_n 1, 1) := by decide +kernel
theorem dJ7_fill_53178_13 : decode cJ7_fill_53178 13 = .ok (.iastore, 1) := by decide +kernel
theorem dJ7_fill_53178_14 : decode cJ7_fill_53178 14 = .ok (.iinc 2 1, 3) := by decide +kernel
theorem dJ7_fill_53178_17 : decode cJ7_fill_53178 17 = .ok (.goto (-12), 3) := by decide +kernel
theorem dJ7_fill_53178_20 : decode cJ7_fill_53178 20 = .ok (.return_, 1) := by decide +kernel
