theorem dX6_init_0 : decode cX6_init 0 = .ok (.aload_n 0, 1) := by decide +kernel
theorem dX6_init_1 : decode cX6_init 1 = .ok (.invokespecial 1, 3) := by decide +kernel
theorem dX6_init_4 : decode cX6_init 4 = .ok (.aload_n 0, 1) := by decide +kernel
theorem dX6_init_5 : decode cX6_init 5 = .ok (.sipush 10276, 3) := by decide +kernel
theorem dX6_init_8 : decode cX6_init 8 = .ok (.newarray .int, 2) := by decide +kernel
theorem dX6_init_10 : decode cX6_init 10 = .ok (.putfield 7, 3) := by decide +kernel
theorem dX6_init_13 : decode cX6_init 13 = .ok (.aload_n 0, 1) := by decide +kernel
theorem dX6_init_14 : decode cX6_init 14 = .ok (.ldc 13, 2) := by decide +kernel
theorem dX6_init_16 : decode cX6_init 16 = .ok (.newarray .int, 2) := by decide +kernel
theorem dX6_init_18 : decode cX6_init 18 = .ok (.putfield 14, 3) := by decide +kernel
theorem dX6_init_21 : decode cX6_init 21 = .ok (.aload_n 0, 1) := by decide +kernel
theorem dX6_init_22 : decode cX6_init 22 = .ok (.sipush 10276, 3) := by decide +kernel
theorem dX6_init_25 : decode cX6_init 25 = .ok (.newarray .int, 2) := by decide +kernel
theorem dX6_init_27 : decode cX6_init 27 = .ok (.putfield 17, 3) := by decide +kernel
theorem dX6_init_30 : decode cX6_init 30 = .ok (.aload_n 0, 1) := by decide +kernel
theorem dX6_init_31 : decode cX6_init 31 = .ok (.bipush 60, 2) := by decide +kernel
theorem dX6_init_33 : decode cX6_init 33 = .ok (.newarray .char, 2) := by decide +kernel
theorem dX6_init_35 : decode cX6_init 35 = .ok (.putfield 20, 3) := by decide +kernel
theorem dX6_init_38 : decode cX6_init 38 = .ok (.aload_n 0, 1) := by decide +kernel
theorem dX6_init_39 : decode cX6_init 39 = .ok (.getfield 7, 3) := by decide +kernel
theorem dX6_init_42 : decode cX6_init 42 = .ok (.sipush 10075, 3) := by decide +kernel
theorem dX6_init_45 : decode cX6_init 45 = .ok (.iconst 1, 1) := by decide +kernel
theorem dX6_init_46 : decode cX6_init 46 = .ok (.iastore, 1) := by decide +kernel
theorem dX6_init_47 : decode cX6_init 47 = .ok (.aload_n 0, 1) := by decide +kernel
theorem dX6_init_48 : decode cX6_init 48 = .ok (.getfield 7, 3) := by decide +kernel
theorem dX6_init_51 : decode cX6_init 51 = .ok (.sipush 10171, 3) := by decide +kernel
theorem dX6_init_54 : decode cX6_init 54 = .ok (.iconst 1, 1) := by decide +kernel
theorem dX6_init_55 : decode cX6_init 55 = .ok (.iastore, 1) := by decide +kernel
theorem dX6_init_56 : decode cX6_init 56 = .ok (.return_, 1) := by decide +kernel
theorem dX6_in_0 : decode cX6_in 0 = .ok (.iload_n 0, 1) := by decide +kernel
theorem dX6_in_1 : decode cX6_in 1 = .ok (.iload_n 1, 1) := by decide +kernel
theorem dX6_in_2 : decode cX6_in 2 = .ok (.if_icmp .lt 12, 3) := by decide +kernel
theorem dX6_in_5 : decode cX6_in 5 = .ok (.iload_n 0, 1) := by decide +kernel
theorem dX6_in_6 : decode cX6_in 6 = .ok (.iload_n 2, 1) := by decide +kernel
theorem dX6_in_7 : decode cX6_in 7 = .ok (.if_icmp .gt 7, 3) := by decide +kernel
theorem dX6_in_10 : decode cX6_in 10 = .ok (.iconst 1, 1) := by decide +kernel
theorem dX6_in_11 : decode cX6_in 11 = .ok (.goto 4, 3) := by decide +kernel
theorem dX6_in_14 : decode cX6_in 14 = .ok (.iconst 0, 1) := by decide +kernel
theorem dX6_in_15 : decode cX6_in 15 = .ok (.ireturn, 1) := by decide +kernel
set_option maxRecDepth 20000 in
theorem ggX6_no_X6_in : GoodIn wsX6_no wsX6_in := goodIn_r _ [5] (by decide +kernel) (by decide +kernel)
set_option maxRecDepth 20000 in
theorem gX6_no_X6_in : GoodIn wsX6_no (va_wsS RX6 24 yX6_in wsX6_in) := goodIn_app (goodIn_of _ (by decide +kernel)) ggX6_no_X6_in
theorem dX6_no_0 : decode cX6_no 0 = .ok (.iload_n 1, 1) := by decide +kernel
theorem dX6_no_1 : decode cX6_no 1 = .ok (.iconst 0, 1) := by decide +kernel
theorem dX6_no_2 : decode cX6_no 2 = .ok (.aload_n 0, 1) := by decide +kernel
theorem dX6_no_3 : decode cX6_no 3 = .ok (.getfield 7, 3) := by decide +kernel
theorem dX6_no_6 : decode cX6_no 6 = .ok (.sipush 10171, 3) := by decide +kernel
theorem dX6_no_9 : decode cX6_no 9 = .ok (.iaload, 1) := by decide +kernel
theorem dX6_no_10 : decode cX6_no 10 = .ok (.iconst 1, 1) := by decide +kernel
theorem dX6_no_11 : decode cX6_no 11 = .ok (.isub, 1) := by decide +kernel
theorem dX6_no_12 : decode cX6_no 12 = .ok (.invokestatic 24, 3) := by decide +kernel
theorem dX6_no_15 : decode cX6_no 15 = .ok (.ifCond .eq 18, 3) := by decide +kernel
theorem dX6_no_18 : decode cX6_no 18 = .ok (.aload_n 0, 1) := by decide +kernel
theorem dX6_no_19 : decode cX6_no 19 = .ok (.getfield 7, 3) := by decide +kernel
theorem dX6_no_22 : decode cX6_no 22 = .ok (.sipush 10075, 3) := by decide +kernel
theorem dX6_no_25 : decode cX6_no 25 = .ok (.iconst 4, 1) := by decide +kernel
theorem dX6_no_26 : decode cX6_no 26 = .ok (.iload_n 1, 1) := by decide +kernel
theorem dX6_no_27 : decode cX6_no 27 = .ok (.imul, 1) := by decide +kernel
theorem dX6_no_28 : decode cX6_no 28 = .ok (.iadd, 1) := by decide +kernel
theorem dX6_no_29 : decode cX6_no 29 = .ok (.iaload, 1) := by decide +kernel
theorem dX6_no_30 : decode cX6_no 30 = .ok (.ifCond .ne 7, 3) := by decide +kernel
theorem dX6_no_33 : decode cX6_no 33 = .ok (.iconst 1, 1) := by decide +kernel
theorem dX6_no_34 : decode cX6_no 34 = .ok (.goto 4, 3) := by decide +kernel
theorem dX6_no_37 : decode cX6_no 37 = .ok (.iconst 0, 1) := by decide +kernel
theorem dX6_no_38 : decode cX6_no 38 = .ok (.ireturn, 1) := by decide +kernel
theorem dX6_isWindow_0 : decode cX6_isWindow 0 = .ok (.aload_n 0, 1) := by decide +kernel
theorem dX6_isWindow_1 : decode cX6_isWindow 1 = .ok (.getfield 7, 3) := by decide +kernel
theorem dX6_isWindow_4 : decode cX6_isWindow 4 = .ok (.sipush 10075, 3) := by decide +kernel
theorem dX6_isWindow_7 : decode cX6_isWindow 7 = .ok (.iconst 4, 1) := by decide +kernel
theorem dX6_isWindow_8 : decode cX6_isWindow 8 = .ok (.iload_n 1, 1) := by decide +kernel
theorem dX6_isWindow_9 : decode cX6_isWindow 9 = .ok (.imul, 1) := by decide +kernel
theorem dX6_isWindow_10 : decode cX6_isWindow 10 = .ok (.iadd, 1) := by decide +kernel
theorem dX6_isWindow_11 : decode cX6_isWindow 11 = .ok (.iconst 1, 1) := by decide +kernel
theorem dX6_isWindow_12 : decode cX6_isWindow 12 = .ok (.iadd, 1) := by decide +kernel
theorem dX6_isWindow_13 : decode cX6_isWindow 13 = .ok (.iaload, 1) := by decide +kernel
theorem dX6_isWindow_14 : decode cX6_isWindow 14 = .ok (.iconst 1, 1) := by decide +kernel
theorem dX6_isWindow_15 : decode cX6_isWindow 15 = .ok (.if_icmp .ne 7, 3) := by decide +kernel
theorem dX6_isWindow_18 : decode cX6_isWindow 18 = .ok (.iconst 1, 1) := by decide +kernel
theorem dX6_isWindow_19 : decode cX6_isWindow 19 = .ok (.goto 4, 3) := by decide +kernel
theorem dX6_isWindow_22 : decode cX6_isWindow 22 = .ok (.iconst 0, 1) := by decide +kernel
theorem dX6_isWindow_23 : decode cX6_isWindow 23 = .ok (.ireturn, 1) := by decide +kernel
theorem dX6_first_0 : decode cX6_first 0 = .ok (.aload_n 0, 1) := by decide +kernel
theorem dX6_first_1 : decode cX6_first 1 = .ok (.getfield 7, 3) := by decide +kernel
theorem dX6_first_4 : decode cX6_first 4 = .ok (.sipush 10075, 3) := by decide +kernel
theorem dX6_first_7 : decode cX6_first 7 = .ok (.iconst 4, 1) := by decide +kernel
theorem dX6_first_8 : decode cX6_first 8 = .ok (.iload_n 1, 1) := by decide +kernel
theorem dX6_first_9 : decode cX6_first 9 = .ok (.imul, 1) := by decide +kernel
theorem dX6_first_10 : decode cX6_first 10 = .ok (.iadd, 1) := by decide +kernel
theorem dX6_first_11 : decode cX6_first 11 = .ok (.iconst 2, 1) := by decide +kernel
theorem dX6_first_12 : decode cX6_first 12 = .ok (.iadd, 1) := by decide +kernel
theorem dX6_first_13 : decode cX6_first 13 = .ok (.iaload, 1) := by decide +kernel
theorem dX6_first_14 : decode cX6_first 14 = .ok (.ireturn, 1) := by decide +kernel
theorem dX6_rowLength_0 : decode cX6_rowLength 0 = .ok (.aload_n 0, 1) := by decide +kernel
theorem dX6_rowLength_1 : decode cX6_rowLength 1 = .ok (.getfield 7, 3) := by decide +kernel
theorem dX6_rowLength_4 : decode cX6_rowLength 4 = .ok (.sipush 403, 3) := by decide +kernel
theorem dX6_rowLength_7 : decode cX6_rowLength 7 = .ok (.iload_n 1, 1) := by decide +kernel
theorem dX6_rowLength_8 : decode cX6_rowLength 8 = .ok (.imul, 1) := by decide +kernel
theorem dX6_rowLength_9 : decode cX6_rowLength 9 = .ok (.iaload, 1) := by decide +kernel
theorem dX6_rowLength_10 : decode cX6_rowLength 10 = .ok (.ireturn, 1) := by decide +kernel
set_option maxRecDepth 20000 in
theorem ggX6_length_X6_isWindow : GoodIn wsX6_length wsX6_isWindow := goodIn_r _ [6, 1, 11, 12, 13, 14, 15, 16, 17, 18, 19] (by decide +kernel) (by decide +kernel)
set_option maxRecDepth 20000 in
theorem gX6_length_X6_isWindow : GoodIn wsX6_length (wsV RX6 28 RX6 yX6_isWindow wsX6_isWindow) := goodIn_app (goodIn_of _ (by decide +kernel)) ggX6_length_X6_isWindow
set_option maxRecDepth 20000 in
theorem ggX6_length_X6_rowLength : GoodIn wsX6_length wsX6_rowLength := goodIn_r _ [10, 1, 11, 12, 13, 14, 15, 16, 17, 18, 19] (by decide +kernel) (by decide +kernel)
set_option maxRecDepth 20000 in
theorem gX6_length_X6_rowLength : GoodIn wsX6_length (wsV RX6 32 RX6 yX6_rowLength wsX6_rowLength) := goodIn_app (goodIn_of _ (by decide +kernel)) ggX6_length_X6_rowLength
theorem dX6_length_0 : decode cX6_length 0 = .ok (.aload_n 0, 1) := by decide +kernel
theorem dX6_length_1 : decode cX6_length 1 = .ok (.iload_n 1, 1) := by decide +kernel
theorem dX6_length_2 : decode cX6_length 2 = .ok (.invokevirtual 28, 3) := by decide +kernel
theorem dX6_length_5 : decode cX6_length 5 = .ok (.ifCond .eq 20, 3) := by decide +kernel
theorem dX6_length_8 : decode cX6_length 8 = .ok (.aload_n 0, 1) := by decide +kernel
theorem dX6_length_9 : decode cX6_length 9 = .ok (.getfield 7, 3) := by decide +kernel
theorem dX6_length_12 : decode cX6_length 12 = .ok (.sipush 10075, 3) := by decide +kernel
theorem dX6_length_15 : decode cX6_length 15 = .ok (.iconst 4, 1) := by decide +kernel
theorem dX6_length_16 : decode cX6_length 16 = .ok (.iload_n 1, 1) := by decide +kernel
theorem dX6_length_17 : decode cX6_length 17 = .ok (.imul, 1) := by decide +kernel
theorem dX6_length_18 : decode cX6_length 18 = .ok (.iadd, 1) := by decide +kernel
theorem dX6_length_19 : decode cX6_length 19 = .ok (.iconst 3, 1) := by decide +kernel
theorem dX6_length_20 : decode cX6_length 20 = .ok (.iadd, 1) := by decide +kernel
theorem dX6_length_21 : decode cX6_length 21 = .ok (.iaload, 1) := by decide +kernel
theorem dX6_length_22 : decode cX6_length 22 = .ok (.goto 8, 3) := by decide +kernel
theorem dX6_length_25 : decode cX6_length 25 = .ok (.aload_n 0, 1) := by decide +kernel
theorem dX6_length_26 : decode cX6_length 26 = .ok (.iload_n 1, 1) := by decide +kernel
theorem dX6_length_27 : decode cX6_length 27 = .ok (.invokevirtual 32, 3) := by decide +kernel
theorem dX6_length_30 : decode cX6_length 30 = .ok (.ireturn, 1) := by decide +kernel
set_option maxRecDepth 20000 in
theorem ggX6_value_X6_first : GoodIn wsX6_value wsX6_first := goodIn_r _ [6, 1, 7, 8, 9, 10, 11, 12, 13, 14, 15] (by decide +kernel) (by decide +kernel)
set_option maxRecDepth 20000 in
theorem gX6_value_X6_first : GoodIn wsX6_value (wsV RX6 36 RX6 yX6_first wsX6_first) := goodIn_app (goodIn_of _ (by decide +kernel)) ggX6_value_X6_first
theorem dX6_value_0 : decode cX6_value 0 = .ok (.aload_n 0, 1) := by decide +kernel
theorem dX6_value_1 : decode cX6_value 1 = .ok (.getfield 7, 3) := by decide +kernel
theorem dX6_value_4 : decode cX6_value 4 = .ok (.sipush 403, 3) := by decide +kernel
theorem dX6_value_7 : decode cX6_value 7 = .ok (.iload_n 1, 1) := by decide +kernel
theorem dX6_value_8 : decode cX6_value 8 = .ok (.imul, 1) := by decide +kernel
theorem dX6_value_9 : decode cX6_value 9 = .ok (.iconst 1, 1) := by decide +kernel
theorem dX6_value_10 : decode cX6_value 10 = .ok (.iadd, 1) := by decide +kernel
theorem dX6_value_11 : decode cX6_value 11 = .ok (.aload_n 0, 1) := by decide +kernel
theorem dX6_value_12 : decode cX6_value 12 = .ok (.iload_n 1, 1) := by decide +kernel
theorem dX6_value_13 : decode cX6_value 13 = .ok (.invokevirtual 36, 3) := by decide +kernel
theorem dX6_value_16 : decode cX6_value 16 = .ok (.iadd, 1) := by decide +kernel
theorem dX6_value_17 : decode cX6_value 17 = .ok (.iload_n 2, 1) := by decide +kernel
theorem dX6_value_18 : decode cX6_value 18 = .ok (.iadd, 1) := by decide +kernel
theorem dX6_value_19 : decode cX6_value 19 = .ok (.iaload, 1) := by decide +kernel
theorem dX6_value_20 : decode cX6_value 20 = .ok (.ireturn, 1) := by decide +kernel
theorem dX6_record_0 : decode cX6_record 0 = .ok (.aload_n 0, 1) := by decide +kernel
theorem dX6_record_1 : decode cX6_record 1 = .ok (.getfield 39, 3) := by decide +kernel
theorem dX6_record_4 : decode cX6_record 4 = .ok (.iconst 4, 1) := by decide +kernel
theorem dX6_record_5 : decode cX6_record 5 = .ok (.if_icmp .ne 44, 3) := by decide +kernel
theorem dX6_record_8 : decode cX6_record 8 = .ok (.iconst 0, 1) := by decide +kernel
theorem dX6_record_9 : decode cX6_record 9 = .ok (.istore_n 1, 1) := by decide +kernel
theorem dX6_record_10 : decode cX6_record 10 = .ok (.iload_n 1, 1) := by decide +kernel
theorem dX6_record_11 : decode cX6_record 11 = .ok (.sipush 30828, 3) := by decide +kernel
theorem dX6_record_14 : decode cX6_record 14 = .ok (.if_icmp .ge 25, 3) := by decide +kernel
theorem dX6_record_17 : decode cX6_record 17 = .ok (.aload_n 0, 1) := by decide +kernel
theorem dX6_record_18 : decode cX6_record 18 = .ok (.getfield 14, 3) := by decide +kernel
theorem dX6_record_21 : decode cX6_record 21 = .ok (.iload_n 1, 1) := by decide +kernel
theorem dX6_record_22 : decode cX6_record 22 = .ok (.aload_n 0, 1) := by decide +kernel
theorem dX6_record_23 : decode cX6_record 23 = .ok (.getfield 14, 3) := by decide +kernel
theorem dX6_record_26 : decode cX6_record 26 = .ok (.iload_n 1, 1) := by decide +kernel
theorem dX6_record_27 : decode cX6_record 27 = .ok (.sipush 10276, 3) := by decide +kernel
theorem dX6_record_30 : decode cX6_record 30 = .ok (.iadd, 1) := by decide +kernel
theorem dX6_record_31 : decode cX6_record 31 = .ok (.iaload, 1) := by decide +kernel
theorem dX6_record_32 : decode cX6_record 32 = .ok (.iastore, 1) := by decide +kernel
theorem dX6_record_33 : decode cX6_record 33 = .ok (.iinc 1 1, 3) := by decide +kernel
theorem dX6_record_36 : decode cX6_record 36 = .ok (.goto (-26), 3) := by decide +kernel
theorem dX6_record_39 : decode cX6_record 39 = .ok (.aload_n 0, 1) := by decide +kernel
theorem dX6_record_40 : decode cX6_record 40 = .ok (.dup, 1) := by decide +kernel
theorem dX6_record_41 : decode cX6_record 41 = .ok (.getfield 39, 3) := by decide +kernel
theorem dX6_record_44 : decode cX6_record 44 = .ok (.iconst 1, 1) := by decide +kernel
theorem dX6_record_45 : decode cX6_record 45 = .ok (.isub, 1) := by decide +kernel
theorem dX6_record_46 : decode cX6_record 46 = .ok (.putfield 39, 3) := by decide +kernel
theorem dX6_record_49 : decode cX6_record 49 = .ok (.iconst 0, 1) := by decide +kernel
theorem dX6_record_50 : decode cX6_record 50 = .ok (.istore_n 1, 1) := by decide +kernel
theorem dX6_record_51 : decode cX6_record 51 = .ok (.iload_n 1, 1) := by decide +kernel
theorem dX6_record_52 : decode cX6_record 52 = .ok (.sipush 10276, 3) := by decide +kernel
theorem dX6_record_55 : decode cX6_record 55 = .ok (.if_icmp .ge 30, 3) := by decide +kernel
theorem dX6_record_58 : decode cX6_record 58 = .ok (.aload_n 0, 1) := by decide +kernel
theorem dX6_record_59 : decode cX6_record 59 = .ok (.getfield 14, 3) := by decide +kernel
theorem dX6_record_62 : decode cX6_record 62 = .ok (.sipush 10276, 3) := by decide +kernel
theorem dX6_record_65 : decode cX6_record 65 = .ok (.aload_n 0, 1) := by decide +kernel
theorem dX6_record_66 : decode cX6_record 66 = .ok (.getfield 39, 3) := by decide +kernel
theorem dX6_record_69 : decode cX6_record 69 = .ok (.imul, 1) := by decide +kernel
theorem dX6_record_70 : decode cX6_record 70 = .ok (.iload_n 1, 1) := by decide +kernel
theorem dX6_record_71 : decode cX6_record 71 = .ok (.iadd, 1) := by decide +kernel
theorem dX6_record_72 : decode cX6_record 72 = .ok (.aload_n 0, 1) := by decide +kernel
theorem dX6_record_73 : decode cX6_record 73 = .ok (.getfield 7, 3) := by decide +kernel
theorem dX6_record_76 : decode cX6_record 76 = .ok (.iload_n 1, 1) := by decide +kernel
theorem dX6_record_77 : decode cX6_record 77 = .ok (.iaload, 1) := by decide +kernel
theorem dX6_record_78 : decode cX6_record 78 = .ok (.iastore, 1) := by decide +kernel
theorem dX6_record_79 : decode cX6_record 79 = .ok (.iinc 1 1, 3) := by decide +kernel
theorem dX6_record_82 : decode cX6_record 82 = .ok (.goto (-31), 3) := by decide +kernel
theorem dX6_record_85 : decode cX6_record 85 = .ok (.aload_n 0, 1) := by decide +kernel
theorem dX6_record_86 : decode cX6_record 86 = .ok (.dup, 1) := by decide +kernel
theorem dX6_record_87 : decode cX6_record 87 = .ok (.getfield 39, 3) := by decide +kernel
theorem dX6_record_90 : decode cX6_record 90 = .ok (.iconst 1, 1) := by decide +kernel
theorem dX6_record_91 : decode cX6_record 91 = .ok (.iadd, 1) := by decide +kernel
theorem dX6_record_92 : decode cX6_record 92 = .ok (.putfield 39, 3) := by decide +kernel
theorem dX6_record_95 : decode cX6_record 95 = .ok (.return_, 1) := by decide +kernel
theorem dX6_leaves_0 : decode cX6_leaves 0 = .ok (.iload_n 0, 1) := by decide +kernel
theorem dX6_leaves_1 : decode cX6_leaves 1 = .ok (.ifCond .ne 7, 3) := by decide +kernel
theorem dX6_leaves_4 : decode cX6_leaves 4 = .ok (.iconst 0, 1) := by decide +kernel
theorem dX6_leaves_5 : decode cX6_leaves 5 = .ok (.goto 8, 3) := by decide +kernel
theorem dX6_leaves_8 : decode cX6_leaves 8 = .ok (.iload_n 0, 1) := by decide +kernel
theorem dX6_leaves_9 : decode cX6_leaves 9 = .ok (.iconst 1, 1) := by decide +kernel
theorem dX6_leaves_10 : decode cX6_leaves 10 = .ok (.isub, 1) := by decide +kernel
theorem dX6_leaves_11 : decode cX6_leaves 11 = .ok (.iconst 4, 1) := by decide +kernel
theorem dX6_leaves_12 : decode cX6_leaves 12 = .ok (.idiv, 1) := by decide +kernel
theorem dX6_leaves_13 : decode cX6_leaves 13 = .ok (.ireturn, 1) := by decide +kernel
theorem dX6_power_0 : decode cX6_power 0 = .ok (.iconst 1, 1) := by decide +kernel
theorem dX6_power_1 : decode cX6_power 1 = .ok (.iconst 2, 1) := by decide +kernel
theorem dX6_power_2 : decode cX6_power 2 = .ok (.iload_n 0, 1) := by decide +kernel
theorem dX6_power_3 : decode cX6_power 3 = .ok (.imul, 1) := by decide +kernel
theorem dX6_power_4 : decode cX6_power 4 = .ok (.ishl, 1) := by decide +kernel
theorem dX6_power_5 : decode cX6_power 5 = .ok (.ireturn, 1) := by decide +kernel
set_option maxRecDepth 20000 in
theorem ggX6_blocks_X6_rootLevel : GoodIn wsX6_blocks wsX6_rootLevel := goodIn_r _ [4, 5, 6, 3, 7] (by decide +kernel) (by decide +kernel)
set_option maxRecDepth 20000 in
theorem gX6_blocks_X6_rootLevel : GoodIn wsX6_blocks (va_wsS RX6 43 yX6_rootLevel wsX6_rootLevel) := goodIn_app (goodIn_of _ (by decide +kernel)) ggX6_blocks_X6_rootLevel
set_option maxRecDepth 20000 in
theorem ggX6_blocks_X6_power : GoodIn wsX6_blocks wsX6_power := goodIn_r _ [7] (by decide +kernel) (by decide +kernel)
set_option maxRecDepth 20000 in
theorem gX6_blocks_X6_power : GoodIn wsX6_blocks (va_wsS RX6 46 yX6_power wsX6_power) := goodIn_app (goodIn_of _ (by decide +kernel)) ggX6_blocks_X6_power
theorem dX6_blocks_0 : decode cX6_blocks 0 = .ok (.iload_n 1, 1) := by decide +kernel
theorem dX6_blocks_1 : decode cX6_blocks 1 = .ok (.iload_n 0, 1) := by decide +kernel
theorem dX6_blocks_2 : decode cX6_blocks 2 = .ok (.invokestatic 43, 3) := by decide +kernel
theorem dX6_blocks_5 : decode cX6_blocks 5 = .ok (.if_icmp .le 7, 3) := by decide +kernel
theorem dX6_blocks_8 : decode cX6_blocks 8 = .ok (.iconst 0, 1) := by decide +kernel
theorem dX6_blocks_9 : decode cX6_blocks 9 = .ok (.goto 16, 3) := by decide +kernel
theorem dX6_blocks_12 : decode cX6_blocks 12 = .ok (.iload_n 0, 1) := by decide +kernel
theorem dX6_blocks_13 : decode cX6_blocks 13 = .ok (.iload_n 1, 1) := by decide +kernel
theorem dX6_blocks_14 : decode cX6_blocks 14 = .ok (.invokestatic 46, 3) := by decide +kernel
theorem dX6_blocks_17 : decode cX6_blocks 17 = .ok (.iadd, 1) := by decide +kernel
theorem dX6_blocks_18 : decode cX6_blocks 18 = .ok (.iconst 1, 1) := by decide +kernel
theorem dX6_blocks_19 : decode cX6_blocks 19 = .ok (.isub, 1) := by decide +kernel
theorem dX6_blocks_20 : decode cX6_blocks 20 = .ok (.iload_n 1, 1) := by decide +kernel
theorem dX6_blocks_21 : decode cX6_blocks 21 = .ok (.invokestatic 46, 3) := by decide +kernel
theorem dX6_blocks_24 : decode cX6_blocks 24 = .ok (.idiv, 1) := by decide +kernel
theorem dX6_blocks_25 : decode cX6_blocks 25 = .ok (.ireturn, 1) := by decide +kernel
set_option maxRecDepth 20000 in
theorem ggX6_rootLevel_X6_power : GoodIn wsX6_rootLevel wsX6_power := goodIn_r _ [4] (by decide +kernel) (by decide +kernel)
set_option maxRecDepth 20000 in
theorem gX6_rootLevel_X6_power : GoodIn wsX6_rootLevel (va_wsS RX6 46 yX6_power wsX6_power) := goodIn_app (goodIn_of _ (by decide +kernel)) ggX6_rootLevel_X6_power
theorem dX6_rootLevel_0 : decode cX6_rootLevel 0 = .ok (.iload_n 0, 1) := by decide +kernel
theorem dX6_rootLevel_1 : decode cX6_rootLevel 1 = .ok (.ifCond .ne 5, 3) := by decide +kernel
theorem dX6_rootLevel_4 : decode cX6_rootLevel 4 = .ok (.iconst (-1), 1) := by decide +kernel
theorem dX6_rootLevel_5 : decode cX6_rootLevel 5 = .ok (.ireturn, 1) := by decide +kernel
theorem dX6_rootLevel_6 : decode cX6_rootLevel 6 = .ok (.iconst 1, 1) := by decide +kernel
theorem dX6_rootLevel_7 : decode cX6_rootLevel 7 = .ok (.istore_n 1, 1) := by decide +kernel
theorem dX6_rootLevel_8 : decode cX6_rootLevel 8 = .ok (.iload_n 1, 1) := by decide +kernel
theorem dX6_rootLevel_9 : decode cX6_rootLevel 9 = .ok (.invokestatic 46, 3) := by decide +kernel
theorem dX6_rootLevel_12 : decode cX6_rootLevel 12 = .ok (.iload_n 0, 1) := by decide +kernel
theorem dX6_rootLevel_13 : decode cX6_rootLevel 13 = .ok (.if_icmp .ge 9, 3) := by decide +kernel
theorem dX6_rootLevel_16 : decode cX6_rootLevel 16 = .ok (.iinc 1 1, 3) := by decide +kernel
theorem dX6_rootLevel_19 : decode cX6_rootLevel 19 = .ok (.goto (-11), 3) := by decide +kernel
theorem dX6_rootLevel_22 : decode cX6_rootLevel 22 = .ok (.iload_n 1, 1) := by decide +kernel
theorem dX6_rootLevel_23 : decode cX6_rootLevel 23 = .ok (.ireturn, 1) := by decide +kernel
set_option maxRecDepth 20000 in
theorem ggX6_allBlocks_X6_blocks : GoodIn wsX6_allBlocks wsX6_blocks := goodIn_r _ [4, 5, 6, 3, 7, 8, 9, 10] (by decide +kernel) (by decide +kernel)
set_option maxRecDepth 20000 in
theorem gX6_allBlocks_X6_blocks : GoodIn wsX6_allBlocks (va_wsS RX6 49 yX6_blocks wsX6_blocks) := goodIn_app (goodIn_of _ (by decide +kernel)) ggX6_allBlocks_X6_blocks
theorem dX6_allBlocks_0 : decode cX6_allBlocks 0 = .ok (.iconst 0, 1) := by decide +kernel
theorem dX6_allBlocks_1 : decode cX6_allBlocks 1 = .ok (.istore_n 1, 1) := by decide +kernel
theorem dX6_allBlocks_2 : decode cX6_allBlocks 2 = .ok (.iconst 0, 1) := by decide +kernel
theorem dX6_allBlocks_3 : decode cX6_allBlocks 3 = .ok (.istore_n 2, 1) := by decide +kernel
theorem dX6_allBlocks_4 : decode cX6_allBlocks 4 = .ok (.iload_n 2, 1) := by decide +kernel
theorem dX6_allBlocks_5 : decode cX6_allBlocks 5 = .ok (.iconst 5, 1) := by decide +kernel
theorem dX6_allBlocks_6 : decode cX6_allBlocks 6 = .ok (.if_icmp .ge 17, 3) := by decide +kernel
theorem dX6_allBlocks_9 : decode cX6_allBlocks 9 = .ok (.iload_n 1, 1) := by decide +kernel
theorem dX6_allBlocks_10 : decode cX6_allBlocks 10 = .ok (.iload_n 0, 1) := by decide +kernel
theorem dX6_allBlocks_11 : decode cX6_allBlocks 11 = .ok (.iload_n 2, 1) := by decide +kernel
theorem dX6_allBlocks_12 : decode cX6_allBlocks 12 = .ok (.invokestatic 49, 3) := by decide +kernel
theorem dX6_allBlocks_15 : decode cX6_allBlocks 15 = .ok (.iadd, 1) := by decide +kernel
theorem dX6_allBlocks_16 : decode cX6_allBlocks 16 = .ok (.istore_n 1, 1) := by decide +kernel
theorem dX6_allBlocks_17 : decode cX6_allBlocks 17 = .ok (.iinc 2 1, 3) := by decide +kernel
theorem dX6_allBlocks_20 : decode cX6_allBlocks 20 = .ok (.goto (-16), 3) := by decide +kernel
theorem dX6_allBlocks_23 : decode cX6_allBlocks 23 = .ok (.iload_n 1, 1) := by decide +kernel
theorem dX6_allBlocks_24 : decode cX6_allBlocks 24 = .ok (.ireturn, 1) := by decide +kernel
theorem dX6_begins_0 : decode cX6_begins 0 = .ok (.iload_n 0, 1) := by decide +kernel
theorem dX6_begins_1 : decode cX6_begins 1 = .ok (.ifCond .ne 7, 3) := by decide +kernel
theorem dX6_begins_4 : decode cX6_begins 4 = .ok (.iconst 0, 1) := by decide +kernel
theorem dX6_begins_5 : decode cX6_begins 5 = .ok (.goto 35, 3) := by decide +kernel
theorem dX6_begins_8 : decode cX6_begins 8 = .ok (.iload_n 0, 1) := by decide +kernel
theorem dX6_begins_9 : decode cX6_begins 9 = .ok (.iconst 1, 1) := by decide +kernel
theorem dX6_begins_10 : decode cX6_begins 10 = .ok (.if_icmp .ne 8, 3) := by decide +kernel
theorem dX6_begins_13 : decode cX6_begins 13 = .ok (.bipush 75, 2) := by decide +kernel
theorem dX6_begins_15 : decode cX6_begins 15 = .ok (.goto 25, 3) := by decide +kernel
theorem dX6_begins_18 : decode cX6_begins 18 = .ok (.iload_n 0, 1) := by decide +kernel
theorem dX6_begins_19 : decode cX6_begins 19 = .ok (.iconst 2, 1) := by decide +kernel
theorem dX6_begins_20 : decode cX6_begins 20 = .ok (.if_icmp .ne 8, 3) := by decide +kernel
theorem dX6_begins_23 : decode cX6_begins 23 = .ok (.bipush 94, 2) := by decide +kernel
theorem dX6_begins_25 : decode cX6_begins 25 = .ok (.goto 15, 3) := by decide +kernel
theorem dX6_begins_28 : decode cX6_begins 28 = .ok (.iload_n 0, 1) := by decide +kernel
theorem dX6_begins_29 : decode cX6_begins 29 = .ok (.iconst 3, 1) := by decide +kernel
theorem dX6_begins_30 : decode cX6_begins 30 = .ok (.if_icmp .ne 8, 3) := by decide +kernel
theorem dX6_begins_33 : decode cX6_begins 33 = .ok (.bipush 99, 2) := by decide +kernel
theorem dX6_begins_35 : decode cX6_begins 35 = .ok (.goto 5, 3) := by decide +kernel
theorem dX6_begins_38 : decode cX6_begins 38 = .ok (.bipush 101, 2) := by decide +kernel
theorem dX6_begins_40 : decode cX6_begins 40 = .ok (.ireturn, 1) := by decide +kernel
set_option maxRecDepth 20000 in
theorem ggX6_id_X6_begins : GoodIn wsX6_id wsX6_begins := goodIn_r _ [5] (by decide +kernel) (by decide +kernel)
set_option maxRecDepth 20000 in
theorem gX6_id_X6_begins : GoodIn wsX6_id (va_wsS RX6 53 yX6_begins wsX6_begins) := goodIn_app (goodIn_of _ (by decide +kernel)) ggX6_id_X6_begins
theorem dX6_id_0 : decode cX6_id 0 = .ok (.aload_n 0, 1) := by decide +kernel
theorem dX6_id_1 : decode cX6_id 1 = .ok (.getfield 7, 3) := by decide +kernel
theorem dX6_id_4 : decode cX6_id 4 = .ok (.sipush 403, 3) := by decide +kernel
theorem dX6_id_7 : decode cX6_id 7 = .ok (.iload_n 1, 1) := by decide +kernel
theorem dX6_id_8 : decode cX6_id 8 = .ok (.imul, 1) := by decide +kernel
theorem dX6_id_9 : decode cX6_id 9 = .ok (.sipush 301, 3) := by decide +kernel
theorem dX6_id_12 : decode cX6_id 12 = .ok (.iadd, 1) := by decide +kernel
theorem dX6_id_13 : decode cX6_id 13 = .ok (.iload_n 2, 1) := by decide +kernel
theorem dX6_id_14 : decode cX6_id 14 = .ok (.invokestatic 53, 3) := by decide +kernel
theorem dX6_id_17 : decode cX6_id 17 = .ok (.iadd, 1) := by decide +kernel
theorem dX6_id_18 : decode cX6_id 18 = .ok (.iload_n 3, 1) := by decide +kernel
theorem dX6_id_19 : decode cX6_id 19 = .ok (.iadd, 1) := by decide +kernel
theorem dX6_id_20 : decode cX6_id 20 = .ok (.iaload, 1) := by decide +kernel
theorem dX6_id_21 : decode cX6_id 21 = .ok (.ireturn, 1) := by decide +kernel
set_option maxRecDepth 20000 in
theorem ggX6_makes_X6_begins : GoodIn wsX6_makes wsX6_begins := goodIn_r _ [5] (by decide +kernel) (by decide +kernel)
set_option maxRecDepth 20000 in
theorem gX6_makes_X6_begins : GoodIn wsX6_makes (va_wsS RX6 53 yX6_begins wsX6_begins) := goodIn_app (goodIn_of _ (by decide +kernel)) ggX6_makes_X6_begins
theorem dX6_makes_0 : decode cX6_makes 0 = .ok (.iload_n 2, 1) := by decide +kernel
theorem dX6_makes_1 : decode cX6_makes 1 = .ok (.invokestatic 53, 3) := by decide +kernel
theorem dX6_makes_4 : decode cX6_makes 4 = .ok (.iload_n 3, 1) := by decide +kernel
theorem dX6_makes_5 : decode cX6_makes 5 = .ok (.iadd, 1) := by decide +kernel
theorem dX6_makes_6 : decode cX6_makes 6 = .ok (.istore 5, 2) := by decide +kernel
theorem dX6_makes_8 : decode cX6_makes 8 = .ok (.iload_n 1, 1) := by decide +kernel
theorem dX6_makes_9 : decode cX6_makes 9 = .ok (.bipush 24, 2) := by decide +kernel
theorem dX6_makes_11 : decode cX6_makes 11 = .ok (.if_icmp .ne 24, 3) := by decide +kernel
theorem dX6_makes_14 : decode cX6_makes 14 = .ok (.iload 4, 2) := by decide +kernel
theorem dX6_makes_16 : decode cX6_makes 16 = .ok (.ifCond .eq 19, 3) := by decide +kernel
theorem dX6_makes_19 : decode cX6_makes 19 = .ok (.aload_n 0, 1) := by decide +kernel
theorem dX6_makes_20 : decode cX6_makes 20 = .ok (.getfield 7, 3) := by decide +kernel
theorem dX6_makes_23 : decode cX6_makes 23 = .ok (.sipush 10174, 3) := by decide +kernel
theorem dX6_makes_26 : decode cX6_makes 26 = .ok (.iload 5, 2) := by decide +kernel
theorem dX6_makes_28 : decode cX6_makes 28 = .ok (.iadd, 1) := by decide +kernel
theorem dX6_makes_29 : decode cX6_makes 29 = .ok (.iaload, 1) := by decide +kernel
theorem dX6_makes_30 : decode cX6_makes 30 = .ok (.iconst 1, 1) := by decide +kernel
theorem dX6_makes_31 : decode cX6_makes 31 = .ok (.if_icmp .ne 4, 3) := by decide +kernel
theorem dX6_makes_34 : decode cX6_makes 34 = .ok (.return_, 1) := by decide +kernel
theorem dX6_makes_35 : decode cX6_makes 35 = .ok (.aload_n 0, 1) := by decide +kernel
theorem dX6_makes_36 : decode cX6_makes 36 = .ok (.getfield 7, 3) := by decide +kernel
theorem dX6_makes_39 : decode cX6_makes 39 = .ok (.sipush 403, 3) := by decide +kernel
theorem dX6_makes_42 : decode cX6_makes 42 = .ok (.iload_n 1, 1) := by decide +kernel
theorem dX6_makes_43 : decode cX6_makes 43 = .ok (.imul, 1) := by decide +kernel
theorem dX6_makes_44 : decode cX6_makes 44 = .ok (.sipush 301, 3) := by decide +kernel
theorem dX6_makes_47 : decode cX6_makes 47 = .ok (.iadd, 1) := by decide +kernel
theorem dX6_makes_48 : decode cX6_makes 48 = .ok (.iload 5, 2) := by decide +kernel
theorem dX6_makes_50 : decode cX6_makes 50 = .ok (.iadd, 1) := by decide +kernel
theorem dX6_makes_51 : decode cX6_makes 51 = .ok (.aload_n 0, 1) := by decide +kernel
theorem dX6_makes_52 : decode cX6_makes 52 = .ok (.getfield 7, 3) := by decide +kernel
theorem dX6_makes_55 : decode cX6_makes 55 = .ok (.sipush 10172, 3) := by decide +kernel
theorem dX6_makes_58 : decode cX6_makes 58 = .ok (.iaload, 1) := by decide +kernel
theorem dX6_makes_59 : decode cX6_makes 59 = .ok (.iastore, 1) := by decide +kernel
theorem dX6_makes_60 : decode cX6_makes 60 = .ok (.aload_n 0, 1) := by decide +kernel
theorem dX6_makes_61 : decode cX6_makes 61 = .ok (.getfield 7, 3) := by decide +kernel
theorem dX6_makes_64 : decode cX6_makes 64 = .ok (.sipush 10172, 3) := by decide +kernel
theorem dX6_makes_67 : decode cX6_makes 67 = .ok (.dup2, 1) := by decide +kernel
theorem dX6_makes_68 : decode cX6_makes 68 = .ok (.iaload, 1) := by decide +kernel
theorem dX6_makes_69 : decode cX6_makes 69 = .ok (.iconst 1, 1) := by decide +kernel
theorem dX6_makes_70 : decode cX6_makes 70 = .ok (.iadd, 1) := by decide +kernel
theorem dX6_makes_71 : decode cX6_makes 71 = .ok (.iastore, 1) := by decide +kernel
theorem dX6_makes_72 : decode cX6_makes 72 = .ok (.iload_n 1, 1) := by decide +kernel
theorem dX6_makes_73 : decode cX6_makes 73 = .ok (.bipush 24, 2) := by decide +kernel
theorem dX6_makes_75 : decode cX6_makes 75 = .ok (.if_icmp .ne 15, 3) := by decide +kernel
theorem dX6_makes_78 : decode cX6_makes 78 = .ok (.aload_n 0, 1) := by decide +kernel
theorem dX6_makes_79 : decode cX6_makes 79 = .ok (.getfield 7, 3) := by decide +kernel
theorem dX6_makes_82 : decode cX6_makes 82 = .ok (.sipush 10174, 3) := by decide +kernel
theorem dX6_makes_85 : decode cX6_makes 85 = .ok (.iload 5, 2) := by decide +kernel
theorem dX6_makes_87 : decode cX6_makes 87 = .ok (.iadd, 1) := by decide +kernel
theorem dX6_makes_88 : decode cX6_makes 88 = .ok (.iconst 1, 1) := by decide +kernel
theorem dX6_makes_89 : decode cX6_makes 89 = .ok (.iastore, 1) := by decide +kernel
theorem dX6_makes_90 : decode cX6_makes 90 = .ok (.return_, 1) := by decide +kernel
set_option maxRecDepth 20000 in
theorem ggX6_pushes_X6_rowLength : GoodIn wsX6_pushes wsX6_rowLength := goodIn_r _ [6, 1, 26, 27, 28, 29, 30, 31, 32, 33, 34] (by decide +kernel) (by decide +kernel)
set_option maxRecDepth 20000 in
theorem gX6_pushes_X6_rowLength : GoodIn wsX6_pushes (wsV RX6 32 RX6 yX6_rowLength wsX6_rowLength) := goodIn_app (goodIn_of _ (by decide +kernel)) ggX6_pushes_X6_rowLength
set_option maxRecDepth 20000 in
theorem ggX6_pushes_X6_leaves : GoodIn wsX6_pushes wsX6_leaves := goodIn_r _ [9] (by decide +kernel) (by decide +kernel)
set_option maxRecDepth 20000 in
theorem gX6_pushes_X6_leaves : GoodIn wsX6_pushes (va_wsS RX6 56 yX6_leaves wsX6_leaves) := goodIn_app (goodIn_of _ (by decide +kernel)) ggX6_pushes_X6_leaves
set_option maxRecDepth 20000 in
theorem ggX6_pushes_X6_makes : GoodIn wsX6_pushes wsX6_makes := goodIn_r _ [13, 1, 14, 15, 5, 16, 26, 27, 28, 29, 30, 31, 32, 33, 34] (by decide +kernel) (by decide +kernel)
set_option maxRecDepth 20000 in
theorem gX6_pushes_X6_makes : GoodIn wsX6_pushes (wsV RX6 59 RX6 yX6_makes wsX6_makes) := goodIn_app (goodIn_of _ (by decide +kernel)) ggX6_pushes_X6_makes
set_option maxRecDepth 20000 in
theorem ggX6_pushes_X6_rootLevel : GoodIn wsX6_pushes wsX6_rootLevel := goodIn_r _ [19, 20, 21, 5, 22] (by decide +kernel) (by decide +kernel)
set_option maxRecDepth 20000 in
theorem gX6_pushes_X6_rootLevel : GoodIn wsX6_pushes (va_wsS RX6 43 yX6_rootLevel wsX6_rootLevel) := goodIn_app (goodIn_of _ (by decide +kernel)) ggX6_pushes_X6_rootLevel
set_option maxRecDepth 20000 in
theorem ggX6_pushes_X6_power : GoodIn wsX6_pushes wsX6_power := goodIn_r _ [22] (by decide +kernel) (by decide +kernel)
set_option maxRecDepth 20000 in
theorem gX6_pushes_X6_power : GoodIn wsX6_pushes (va_wsS RX6 46 yX6_power wsX6_power) := goodIn_app (goodIn_of _ (by decide +kernel)) ggX6_pushes_X6_power
set_option maxRecDepth 20000 in
theorem ggX6_pushes_X6_blocks : GoodIn wsX6_pushes wsX6_blocks := goodIn_r _ [25, 17, 18, 5, 19, 20, 21, 22] (by decide +kernel) (by decide +kernel)
set_option maxRecDepth 20000 in
theorem gX6_pushes_X6_blocks : GoodIn wsX6_pushes (va_wsS RX6 49 yX6_blocks wsX6_blocks) := goodIn_app (goodIn_of _ (by decide +kernel)) ggX6_pushes_X6_blocks
theorem dX6_pushes_0 : decode cX6_pushes 0 = .ok (.aload_n 0, 1) := by decide +kernel
theorem dX6_pushes_1 : decode cX6_pushes 1 = .ok (.iload_n 1, 1) := by decide +kernel
theorem dX6_pushes_2 : decode cX6_pushes 2 = .ok (.invokevirtual 32, 3) := by decide +kernel
theorem dX6_pushes_5 : decode cX6_pushes 5 = .ok (.istore_n 3, 1) := by decide +kernel
theorem dX6_pushes_6 : decode cX6_pushes 6 = .ok (.iload_n 3, 1) := by decide +kernel
theorem dX6_pushes_7 : decode cX6_pushes 7 = .ok (.invokestatic 56, 3) := by decide +kernel
theorem dX6_pushes_10 : decode cX6_pushes 10 = .ok (.istore 4, 2) := by decide +kernel
theorem dX6_pushes_12 : decode cX6_pushes 12 = .ok (.iload_n 3, 1) := by decide +kernel
theorem dX6_pushes_13 : decode cX6_pushes 13 = .ok (.ifCond .le 79, 3) := by decide +kernel
theorem dX6_pushes_16 : decode cX6_pushes 16 = .ok (.iload_n 3, 1) := by decide +kernel
theorem dX6_pushes_17 : decode cX6_pushes 17 = .ok (.iconst 4, 1) := by decide +kernel
theorem dX6_pushes_18 : decode cX6_pushes 18 = .ok (.irem, 1) := by decide +kernel
theorem dX6_pushes_19 : decode cX6_pushes 19 = .ok (.ifCond .ne 73, 3) := by decide +kernel
theorem dX6_pushes_22 : decode cX6_pushes 22 = .ok (.aload_n 0, 1) := by decide +kernel
theorem dX6_pushes_23 : decode cX6_pushes 23 = .ok (.iload_n 1, 1) := by decide +kernel
theorem dX6_pushes_24 : decode cX6_pushes 24 = .ok (.iconst 0, 1) := by decide +kernel
theorem dX6_pushes_25 : decode cX6_pushes 25 = .ok (.iload 4, 2) := by decide +kernel
theorem dX6_pushes_27 : decode cX6_pushes 27 = .ok (.iconst 0, 1) := by decide +kernel
theorem dX6_pushes_28 : decode cX6_pushes 28 = .ok (.invokevirtual 59, 3) := by decide +kernel
theorem dX6_pushes_31 : decode cX6_pushes 31 = .ok (.iload 4, 2) := by decide +kernel
theorem dX6_pushes_33 : decode cX6_pushes 33 = .ok (.iconst 1, 1) := by decide +kernel
theorem dX6_pushes_34 : decode cX6_pushes 34 = .ok (.iadd, 1) := by decide +kernel
theorem dX6_pushes_35 : decode cX6_pushes 35 = .ok (.invokestatic 43, 3) := by decide +kernel
theorem dX6_pushes_38 : decode cX6_pushes 38 = .ok (.istore 5, 2) := by decide +kernel
theorem dX6_pushes_40 : decode cX6_pushes 40 = .ok (.iconst 1, 1) := by decide +kernel
theorem dX6_pushes_41 : decode cX6_pushes 41 = .ok (.istore 6, 2) := by decide +kernel
theorem dX6_pushes_43 : decode cX6_pushes 43 = .ok (.iload 6, 2) := by decide +kernel
theorem dX6_pushes_45 : decode cX6_pushes 45 = .ok (.iload 5, 2) := by decide +kernel
theorem dX6_pushes_47 : decode cX6_pushes 47 = .ok (.if_icmp .gt 45, 3) := by decide +kernel
theorem dX6_pushes_50 : decode cX6_pushes 50 = .ok (.iload 4, 2) := by decide +kernel
theorem dX6_pushes_52 : decode cX6_pushes 52 = .ok (.iload 6, 2) := by decide +kernel
theorem dX6_pushes_54 : decode cX6_pushes 54 = .ok (.invokestatic 46, 3) := by decide +kernel
theorem dX6_pushes_57 : decode cX6_pushes 57 = .ok (.idiv, 1) := by decide +kernel
theorem dX6_pushes_58 : decode cX6_pushes 58 = .ok (.istore 7, 2) := by decide +kernel
theorem dX6_pushes_60 : decode cX6_pushes 60 = .ok (.aload_n 0, 1) := by decide +kernel
theorem dX6_pushes_61 : decode cX6_pushes 61 = .ok (.iload_n 1, 1) := by decide +kernel
theorem dX6_pushes_62 : decode cX6_pushes 62 = .ok (.iload 6, 2) := by decide +kernel
theorem dX6_pushes_64 : decode cX6_pushes 64 = .ok (.iload 7, 2) := by decide +kernel
theorem dX6_pushes_66 : decode cX6_pushes 66 = .ok (.iload 7, 2) := by decide +kernel
theorem dX6_pushes_68 : decode cX6_pushes 68 = .ok (.iload 4, 2) := by decide +kernel
theorem dX6_pushes_70 : decode cX6_pushes 70 = .ok (.iload 6, 2) := by decide +kernel
theorem dX6_pushes_72 : decode cX6_pushes 72 = .ok (.invokestatic 49, 3) := by decide +kernel
theorem dX6_pushes_75 : decode cX6_pushes 75 = .ok (.if_icmp .ge 7, 3) := by decide +kernel
theorem dX6_pushes_78 : decode cX6_pushes 78 = .ok (.iconst 1, 1) := by decide +kernel
theorem dX6_pushes_79 : decode cX6_pushes 79 = .ok (.goto 4, 3) := by decide +kernel
theorem dX6_pushes_82 : decode cX6_pushes 82 = .ok (.iconst 0, 1) := by decide +kernel
theorem dX6_pushes_83 : decode cX6_pushes 83 = .ok (.invokevirtual 59, 3) := by decide +kernel
theorem dX6_pushes_86 : decode cX6_pushes 86 = .ok (.iinc 6 1, 3) := by decide +kernel
theorem dX6_pushes_89 : decode cX6_pushes 89 = .ok (.goto (-46), 3) := by decide +kernel
theorem dX6_pushes_92 : decode cX6_pushes 92 = .ok (.aload_n 0, 1) := by decide +kernel
theorem dX6_pushes_93 : decode cX6_pushes 93 = .ok (.getfield 7, 3) := by decide +kernel
theorem dX6_pushes_96 : decode cX6_pushes 96 = .ok (.sipush 403, 3) := by decide +kernel
theorem dX6_pushes_99 : decode cX6_pushes 99 = .ok (.iload_n 1, 1) := by decide +kernel
theorem dX6_pushes_100 : decode cX6_pushes 100 = .ok (.imul, 1) := by decide +kernel
theorem dX6_pushes_101 : decode cX6_pushes 101 = .ok (.iconst 1, 1) := by decide +kernel
theorem dX6_pushes_102 : decode cX6_pushes 102 = .ok (.iadd, 1) := by decide +kernel
theorem dX6_pushes_103 : decode cX6_pushes 103 = .ok (.iload_n 3, 1) := by decide +kernel
theorem dX6_pushes_104 : decode cX6_pushes 104 = .ok (.iadd, 1) := by decide +kernel
theorem dX6_pushes_105 : decode cX6_pushes 105 = .ok (.iload_n 2, 1) := by decide +kernel
theorem dX6_pushes_106 : decode cX6_pushes 106 = .ok (.iastore, 1) := by decide +kernel
theorem dX6_pushes_107 : decode cX6_pushes 107 = .ok (.aload_n 0, 1) := by decide +kernel
theorem dX6_pushes_108 : decode cX6_pushes 108 = .ok (.getfield 7, 3) := by decide +kernel
theorem dX6_pushes_111 : decode cX6_pushes 111 = .ok (.sipush 403, 3) := by decide +kernel
theorem dX6_pushes_114 : decode cX6_pushes 114 = .ok (.iload_n 1, 1) := by decide +kernel
theorem dX6_pushes_115 : decode cX6_pushes 115 = .ok (.imul, 1) := by decide +kernel
theorem dX6_pushes_116 : decode cX6_pushes 116 = .ok (.iload_n 3, 1) := by decide +kernel
theorem dX6_pushes_117 : decode cX6_pushes 117 = .ok (.iconst 1, 1) := by decide +kernel
theorem dX6_pushes_118 : decode cX6_pushes 118 = .ok (.iadd, 1) := by decide +kernel
theorem dX6_pushes_119 : decode cX6_pushes 119 = .ok (.iastore, 1) := by decide +kernel
theorem dX6_pushes_120 : decode cX6_pushes 120 = .ok (.return_, 1) := by decide +kernel
set_option maxRecDepth 20000 in
theorem ggX6_sets_X6_rowLength : GoodIn wsX6_sets wsX6_rowLength := goodIn_r _ [6, 1, 23, 24, 25, 26, 27, 28, 29, 30, 31] (by decide +kernel) (by decide +kernel)
set_option maxRecDepth 20000 in
theorem gX6_sets_X6_rowLength : GoodIn wsX6_sets (wsV RX6 32 RX6 yX6_rowLength wsX6_rowLength) := goodIn_app (goodIn_of _ (by decide +kernel)) ggX6_sets_X6_rowLength
set_option maxRecDepth 20000 in
theorem ggX6_sets_X6_leaves : GoodIn wsX6_sets wsX6_leaves := goodIn_r _ [9] (by decide +kernel) (by decide +kernel)
set_option maxRecDepth 20000 in
theorem gX6_sets_X6_leaves : GoodIn wsX6_sets (va_wsS RX6 56 yX6_leaves wsX6_leaves) := goodIn_app (goodIn_of _ (by decide +kernel)) ggX6_sets_X6_leaves
set_option maxRecDepth 20000 in
theorem ggX6_sets_X6_rootLevel : GoodIn wsX6_sets wsX6_rootLevel := goodIn_r _ [12, 13, 14, 5, 15] (by decide +kernel) (by decide +kernel)
set_option maxRecDepth 20000 in
theorem gX6_sets_X6_rootLevel : GoodIn wsX6_sets (va_wsS RX6 43 yX6_rootLevel wsX6_rootLevel) := goodIn_app (goodIn_of _ (by decide +kernel)) ggX6_sets_X6_rootLevel
set_option maxRecDepth 20000 in
theorem ggX6_sets_X6_power : GoodIn wsX6_sets wsX6_power := goodIn_r _ [15] (by decide +kernel) (by decide +kernel)
set_option maxRecDepth 20000 in
theorem gX6_sets_X6_power : GoodIn wsX6_sets (va_wsS RX6 46 yX6_power wsX6_power) := goodIn_app (goodIn_of _ (by decide +kernel)) ggX6_sets_X6_power
set_option maxRecDepth 20000 in
theorem ggX6_sets_X6_makes : GoodIn wsX6_sets wsX6_makes := goodIn_r _ [19, 1, 20, 21, 5, 22, 23, 24, 25, 26, 27, 28, 29, 30, 31] (by decide +kernel) (by decide +kernel)
set_option maxRecDepth 20000 in
theorem gX6_sets_X6_makes : GoodIn wsX6_sets (wsV RX6 59 RX6 yX6_makes wsX6_makes) := goodIn_app (goodIn_of _ (by decide +kernel)) ggX6_sets_X6_makes
theorem dX6_sets_0 : decode cX6_sets 0 = .ok (.aload_n 0, 1) := by decide +kernel
theorem dX6_sets_1 : decode cX6_sets 1 = .ok (.iload_n 1, 1) := by decide +kernel
theorem dX6_sets_2 : decode cX6_sets 2 = .ok (.invokevirtual 32, 3) := by decide +kernel
theorem dX6_sets_5 : decode cX6_sets 5 = .ok (.invokestatic 56, 3) := by decide +kernel
theorem dX6_sets_8 : decode cX6_sets 8 = .ok (.istore 4, 2) := by decide +kernel
theorem dX6_sets_10 : decode cX6_sets 10 = .ok (.iload_n 2, 1) := by decide +kernel
theorem dX6_sets_11 : decode cX6_sets 11 = .ok (.iconst 4, 1) := by decide +kernel
theorem dX6_sets_12 : decode cX6_sets 12 = .ok (.iload 4, 2) := by decide +kernel
theorem dX6_sets_14 : decode cX6_sets 14 = .ok (.imul, 1) := by decide +kernel
theorem dX6_sets_15 : decode cX6_sets 15 = .ok (.if_icmp .ge 43, 3) := by decide +kernel
theorem dX6_sets_18 : decode cX6_sets 18 = .ok (.iload_n 2, 1) := by decide +kernel
theorem dX6_sets_19 : decode cX6_sets 19 = .ok (.iconst 4, 1) := by decide +kernel
theorem dX6_sets_20 : decode cX6_sets 20 = .ok (.idiv, 1) := by decide +kernel
theorem dX6_sets_21 : decode cX6_sets 21 = .ok (.istore 5, 2) := by decide +kernel
theorem dX6_sets_23 : decode cX6_sets 23 = .ok (.iconst 0, 1) := by decide +kernel
theorem dX6_sets_24 : decode cX6_sets 24 = .ok (.istore 6, 2) := by decide +kernel
theorem dX6_sets_26 : decode cX6_sets 26 = .ok (.iload 6, 2) := by decide +kernel
theorem dX6_sets_28 : decode cX6_sets 28 = .ok (.iload 4, 2) := by decide +kernel
theorem dX6_sets_30 : decode cX6_sets 30 = .ok (.invokestatic 43, 3) := by decide +kernel
theorem dX6_sets_33 : decode cX6_sets 33 = .ok (.if_icmp .gt 25, 3) := by decide +kernel
theorem dX6_sets_36 : decode cX6_sets 36 = .ok (.aload_n 0, 1) := by decide +kernel
theorem dX6_sets_37 : decode cX6_sets 37 = .ok (.iload_n 1, 1) := by decide +kernel
theorem dX6_sets_38 : decode cX6_sets 38 = .ok (.iload 6, 2) := by decide +kernel
theorem dX6_sets_40 : decode cX6_sets 40 = .ok (.iload 5, 2) := by decide +kernel
theorem dX6_sets_42 : decode cX6_sets 42 = .ok (.iload 6, 2) := by decide +kernel
theorem dX6_sets_44 : decode cX6_sets 44 = .ok (.invokestatic 46, 3) := by decide +kernel
theorem dX6_sets_47 : decode cX6_sets 47 = .ok (.idiv, 1) := by decide +kernel
theorem dX6_sets_48 : decode cX6_sets 48 = .ok (.iconst 1, 1) := by decide +kernel
theorem dX6_sets_49 : decode cX6_sets 49 = .ok (.invokevirtual 59, 3) := by decide +kernel
theorem dX6_sets_52 : decode cX6_sets 52 = .ok (.iinc 6 1, 3) := by decide +kernel
theorem dX6_sets_55 : decode cX6_sets 55 = .ok (.goto (-29), 3) := by decide +kernel
theorem dX6_sets_58 : decode cX6_sets 58 = .ok (.aload_n 0, 1) := by decide +kernel
theorem dX6_sets_59 : decode cX6_sets 59 = .ok (.getfield 7, 3) := by decide +kernel
theorem dX6_sets_62 : decode cX6_sets 62 = .ok (.sipush 403, 3) := by decide +kernel
theorem dX6_sets_65 : decode cX6_sets 65 = .ok (.iload_n 1, 1) := by decide +kernel
theorem dX6_sets_66 : decode cX6_sets 66 = .ok (.imul, 1) := by decide +kernel
theorem dX6_sets_67 : decode cX6_sets 67 = .ok (.iconst 1, 1) := by decide +kernel
theorem dX6_sets_68 : decode cX6_sets 68 = .ok (.iadd, 1) := by decide +kernel
theorem dX6_sets_69 : decode cX6_sets 69 = .ok (.iload_n 2, 1) := by decide +kernel
theorem dX6_sets_70 : decode cX6_sets 70 = .ok (.iadd, 1) := by decide +kernel
theorem dX6_sets_71 : decode cX6_sets 71 = .ok (.iload_n 3, 1) := by decide +kernel
theorem dX6_sets_72 : decode cX6_sets 72 = .ok (.iastore, 1) := by decide +kernel
theorem dX6_sets_73 : decode cX6_sets 73 = .ok (.return_, 1) := by decide +kernel
set_option maxRecDepth 20000 in
theorem ggX6_pops_X6_rowLength : GoodIn wsX6_pops wsX6_rowLength := goodIn_r _ [6, 1, 26, 27, 28, 29, 30, 31, 32, 33, 34] (by decide +kernel) (by decide +kernel)
set_option maxRecDepth 20000 in
theorem gX6_pops_X6_rowLength : GoodIn wsX6_pops (wsV RX6 32 RX6 yX6_rowLength wsX6_rowLength) := goodIn_app (goodIn_of _ (by decide +kernel)) ggX6_pops_X6_rowLength
set_option maxRecDepth 20000 in
theorem ggX6_pops_X6_leaves : GoodIn wsX6_pops wsX6_leaves := goodIn_r _ [9] (by decide +kernel) (by decide +kernel)
set_option maxRecDepth 20000 in
theorem gX6_pops_X6_leaves : GoodIn wsX6_pops (va_wsS RX6 56 yX6_leaves wsX6_leaves) := goodIn_app (goodIn_of _ (by decide +kernel)) ggX6_pops_X6_leaves
set_option maxRecDepth 20000 in
theorem ggX6_pops_X6_rootLevel : GoodIn wsX6_pops wsX6_rootLevel := goodIn_r _ [12, 13, 14, 5, 15] (by decide +kernel) (by decide +kernel)
set_option maxRecDepth 20000 in
theorem gX6_pops_X6_rootLevel : GoodIn wsX6_pops (va_wsS RX6 43 yX6_rootLevel wsX6_rootLevel) := goodIn_app (goodIn_of _ (by decide +kernel)) ggX6_pops_X6_rootLevel
set_option maxRecDepth 20000 in
theorem ggX6_pops_X6_power : GoodIn wsX6_pops wsX6_power := goodIn_r _ [15] (by decide +kernel) (by decide +kernel)
set_option maxRecDepth 20000 in
theorem gX6_pops_X6_power : GoodIn wsX6_pops (va_wsS RX6 46 yX6_power wsX6_power) := goodIn_app (goodIn_of _ (by decide +kernel)) ggX6_pops_X6_power
set_option maxRecDepth 20000 in
theorem ggX6_pops_X6_blocks : GoodIn wsX6_pops wsX6_blocks := goodIn_r _ [18, 10, 11, 5, 12, 13, 14, 15] (by decide +kernel) (by decide +kernel)
set_option maxRecDepth 20000 in
theorem gX6_pops_X6_blocks : GoodIn wsX6_pops (va_wsS RX6 49 yX6_blocks wsX6_blocks) := goodIn_app (goodIn_of _ (by decide +kernel)) ggX6_pops_X6_blocks
set_option maxRecDepth 20000 in
theorem ggX6_pops_X6_makes : GoodIn wsX6_pops wsX6_makes := goodIn_r _ [22, 1, 23, 24, 5, 25, 26, 27, 28, 29, 30, 31, 32, 33, 34] (by decide +kernel) (by decide +kernel)
set_option maxRecDepth 20000 in
theorem gX6_pops_X6_makes : GoodIn wsX6_pops (wsV RX6 59 RX6 yX6_makes wsX6_makes) := goodIn_app (goodIn_of _ (by decide +kernel)) ggX6_pops_X6_makes
theorem dX6_pops_0 : decode cX6_pops 0 = .ok (.aload_n 0, 1) := by decide +kernel
theorem dX6_pops_1 : decode cX6_pops 1 = .ok (.iload_n 1, 1) := by decide +kernel
theorem dX6_pops_2 : decode cX6_pops 2 = .ok (.invokevirtual 32, 3) := by decide +kernel
theorem dX6_pops_5 : decode cX6_pops 5 = .ok (.iconst 1, 1) := by decide +kernel
theorem dX6_pops_6 : decode cX6_pops 6 = .ok (.isub, 1) := by decide +kernel
theorem dX6_pops_7 : decode cX6_pops 7 = .ok (.istore_n 2, 1) := by decide +kernel
theorem dX6_pops_8 : decode cX6_pops 8 = .ok (.iload_n 2, 1) := by decide +kernel
theorem dX6_pops_9 : decode cX6_pops 9 = .ok (.iconst 1, 1) := by decide +kernel
theorem dX6_pops_10 : decode cX6_pops 10 = .ok (.iadd, 1) := by decide +kernel
theorem dX6_pops_11 : decode cX6_pops 11 = .ok (.invokestatic 56, 3) := by decide +kernel
theorem dX6_pops_14 : decode cX6_pops 14 = .ok (.istore_n 3, 1) := by decide +kernel
theorem dX6_pops_15 : decode cX6_pops 15 = .ok (.iload_n 2, 1) := by decide +kernel
theorem dX6_pops_16 : decode cX6_pops 16 = .ok (.invokestatic 56, 3) := by decide +kernel
theorem dX6_pops_19 : decode cX6_pops 19 = .ok (.istore 4, 2) := by decide +kernel
theorem dX6_pops_21 : decode cX6_pops 21 = .ok (.iload 4, 2) := by decide +kernel
theorem dX6_pops_23 : decode cX6_pops 23 = .ok (.iload_n 3, 1) := by decide +kernel
theorem dX6_pops_24 : decode cX6_pops 24 = .ok (.if_icmp .ge 54, 3) := by decide +kernel
theorem dX6_pops_27 : decode cX6_pops 27 = .ok (.iconst 1, 1) := by decide +kernel
theorem dX6_pops_28 : decode cX6_pops 28 = .ok (.istore 5, 2) := by decide +kernel
theorem dX6_pops_30 : decode cX6_pops 30 = .ok (.iload 5, 2) := by decide +kernel
theorem dX6_pops_32 : decode cX6_pops 32 = .ok (.iload 4, 2) := by decide +kernel
theorem dX6_pops_34 : decode cX6_pops 34 = .ok (.invokestatic 43, 3) := by decide +kernel
theorem dX6_pops_37 : decode cX6_pops 37 = .ok (.if_icmp .gt 41, 3) := by decide +kernel
theorem dX6_pops_40 : decode cX6_pops 40 = .ok (.iload 4, 2) := by decide +kernel
theorem dX6_pops_42 : decode cX6_pops 42 = .ok (.iload 5, 2) := by decide +kernel
theorem dX6_pops_44 : decode cX6_pops 44 = .ok (.invokestatic 46, 3) := by decide +kernel
theorem dX6_pops_47 : decode cX6_pops 47 = .ok (.idiv, 1) := by decide +kernel
theorem dX6_pops_48 : decode cX6_pops 48 = .ok (.istore 6, 2) := by decide +kernel
theorem dX6_pops_50 : decode cX6_pops 50 = .ok (.iload 6, 2) := by decide +kernel
theorem dX6_pops_52 : decode cX6_pops 52 = .ok (.iload 4, 2) := by decide +kernel
theorem dX6_pops_54 : decode cX6_pops 54 = .ok (.iload 5, 2) := by decide +kernel
theorem dX6_pops_56 : decode cX6_pops 56 = .ok (.invokestatic 49, 3) := by decide +kernel
theorem dX6_pops_59 : decode cX6_pops 59 = .ok (.if_icmp .ge 13, 3) := by decide +kernel
theorem dX6_pops_62 : decode cX6_pops 62 = .ok (.aload_n 0, 1) := by decide +kernel
theorem dX6_pops_63 : decode cX6_pops 63 = .ok (.iload_n 1, 1) := by decide +kernel
theorem dX6_pops_64 : decode cX6_pops 64 = .ok (.iload 5, 2) := by decide +kernel
theorem dX6_pops_66 : decode cX6_pops 66 = .ok (.iload 6, 2) := by decide +kernel
theorem dX6_pops_68 : decode cX6_pops 68 = .ok (.iconst 1, 1) := by decide +kernel
theorem dX6_pops_69 : decode cX6_pops 69 = .ok (.invokevirtual 59, 3) := by decide +kernel
theorem dX6_pops_72 : decode cX6_pops 72 = .ok (.iinc 5 1, 3) := by decide +kernel
theorem dX6_pops_75 : decode cX6_pops 75 = .ok (.goto (-45), 3) := by decide +kernel
theorem dX6_pops_78 : decode cX6_pops 78 = .ok (.aload_n 0, 1) := by decide +kernel
theorem dX6_pops_79 : decode cX6_pops 79 = .ok (.getfield 7, 3) := by decide +kernel
theorem dX6_pops_82 : decode cX6_pops 82 = .ok (.sipush 403, 3) := by decide +kernel
theorem dX6_pops_85 : decode cX6_pops 85 = .ok (.iload_n 1, 1) := by decide +kernel
theorem dX6_pops_86 : decode cX6_pops 86 = .ok (.imul, 1) := by decide +kernel
theorem dX6_pops_87 : decode cX6_pops 87 = .ok (.iload_n 2, 1) := by decide +kernel
theorem dX6_pops_88 : decode cX6_pops 88 = .ok (.iastore, 1) := by decide +kernel
theorem dX6_pops_89 : decode cX6_pops 89 = .ok (.return_, 1) := by decide +kernel
theorem dX6_isFull_0 : decode cX6_isFull 0 = .ok (.aload_n 0, 1) := by decide +kernel
theorem dX6_isFull_1 : decode cX6_isFull 1 = .ok (.getfield 7, 3) := by decide +kernel
theorem dX6_isFull_4 : decode cX6_isFull 4 = .ok (.sipush 10171, 3) := by decide +kernel
theorem dX6_isFull_7 : decode cX6_isFull 7 = .ok (.iaload, 1) := by decide +kernel
theorem dX6_isFull_8 : decode cX6_isFull 8 = .ok (.bipush 24, 2) := by decide +kernel
theorem dX6_isFull_10 : decode cX6_isFull 10 = .ok (.if_icmp .ne 7, 3) := by decide +kernel
theorem dX6_isFull_13 : decode cX6_isFull 13 = .ok (.iconst 1, 1) := by decide +kernel
theorem dX6_isFull_14 : decode cX6_isFull 14 = .ok (.goto 4, 3) := by decide +kernel
theorem dX6_isFull_17 : decode cX6_isFull 17 = .ok (.iconst 0, 1) := by decide +kernel
theorem dX6_isFull_18 : decode cX6_isFull 18 = .ok (.ireturn, 1) := by decide +kernel
theorem dX6_copies_0 : decode cX6_copies 0 = .ok (.iconst 0, 1) := by decide +kernel
theorem dX6_copies_1 : decode cX6_copies 1 = .ok (.istore_n 3, 1) := by decide +kernel
theorem dX6_copies_2 : decode cX6_copies 2 = .ok (.iload_n 3, 1) := by decide +kernel
theorem dX6_copies_3 : decode cX6_copies 3 = .ok (.sipush 403, 3) := by decide +kernel
theorem dX6_copies_6 : decode cX6_copies 6 = .ok (.if_icmp .ge 33, 3) := by decide +kernel
theorem dX6_copies_9 : decode cX6_copies 9 = .ok (.aload_n 0, 1) := by decide +kernel
theorem dX6_copies_10 : decode cX6_copies 10 = .ok (.getfield 7, 3) := by decide +kernel
theorem dX6_copies_13 : decode cX6_copies 13 = .ok (.sipush 403, 3) := by decide +kernel
theorem dX6_copies_16 : decode cX6_copies 16 = .ok (.iload_n 2, 1) := by decide +kernel
theorem dX6_copies_17 : decode cX6_copies 17 = .ok (.imul, 1) := by decide +kernel
theorem dX6_copies_18 : decode cX6_copies 18 = .ok (.iload_n 3, 1) := by decide +kernel
theorem dX6_copies_19 : decode cX6_copies 19 = .ok (.iadd, 1) := by decide +kernel
theorem dX6_copies_20 : decode cX6_copies 20 = .ok (.aload_n 0, 1) := by decide +kernel
theorem dX6_copies_21 : decode cX6_copies 21 = .ok (.getfield 7, 3) := by decide +kernel
theorem dX6_copies_24 : decode cX6_copies 24 = .ok (.sipush 403, 3) := by decide +kernel
theorem dX6_copies_27 : decode cX6_copies 27 = .ok (.iload_n 1, 1) := by decide +kernel
theorem dX6_copies_28 : decode cX6_copies 28 = .ok (.imul, 1) := by decide +kernel
theorem dX6_copies_29 : decode cX6_copies 29 = .ok (.iload_n 3, 1) := by decide +kernel
theorem dX6_copies_30 : decode cX6_copies 30 = .ok (.iadd, 1) := by decide +kernel
theorem dX6_copies_31 : decode cX6_copies 31 = .ok (.iaload, 1) := by decide +kernel
theorem dX6_copies_32 : decode cX6_copies 32 = .ok (.iastore, 1) := by decide +kernel
theorem dX6_copies_33 : decode cX6_copies 33 = .ok (.iinc 3 1, 3) := by decide +kernel
theorem dX6_copies_36 : decode cX6_copies 36 = .ok (.goto (-34), 3) := by decide +kernel
theorem dX6_copies_39 : decode cX6_copies 39 = .ok (.return_, 1) := by decide +kernel
set_option maxRecDepth 20000 in
theorem ggX6_comes_X6_copies : GoodIn wsX6_comes wsX6_copies := goodIn_r _ [6, 1, 7, 8, 9, 10, 11, 12, 13, 14, 15] (by decide +kernel) (by decide +kernel)
set_option maxRecDepth 20000 in
theorem gX6_comes_X6_copies : GoodIn wsX6_comes (wsV RX6 63 RX6 yX6_copies wsX6_copies) := goodIn_app (goodIn_of _ (by decide +kernel)) ggX6_comes_X6_copies
theorem dX6_comes_0 : decode cX6_comes 0 = .ok (.aload_n 0, 1) := by decide +kernel
theorem dX6_comes_1 : decode cX6_comes 1 = .ok (.getfield 7, 3) := by decide +kernel
theorem dX6_comes_4 : decode cX6_comes 4 = .ok (.sipush 10171, 3) := by decide +kernel
theorem dX6_comes_7 : decode cX6_comes 7 = .ok (.iaload, 1) := by decide +kernel
theorem dX6_comes_8 : decode cX6_comes 8 = .ok (.istore 5, 2) := by decide +kernel
theorem dX6_comes_10 : decode cX6_comes 10 = .ok (.aload_n 0, 1) := by decide +kernel
theorem dX6_comes_11 : decode cX6_comes 11 = .ok (.iload_n 1, 1) := by decide +kernel
theorem dX6_comes_12 : decode cX6_comes 12 = .ok (.iload 5, 2) := by decide +kernel
theorem dX6_comes_14 : decode cX6_comes 14 = .ok (.invokevirtual 63, 3) := by decide +kernel
theorem dX6_comes_17 : decode cX6_comes 17 = .ok (.aload_n 0, 1) := by decide +kernel
theorem dX6_comes_18 : decode cX6_comes 18 = .ok (.getfield 7, 3) := by decide +kernel
theorem dX6_comes_21 : decode cX6_comes 21 = .ok (.sipush 10075, 3) := by decide +kernel
theorem dX6_comes_24 : decode cX6_comes 24 = .ok (.iconst 4, 1) := by decide +kernel
theorem dX6_comes_25 : decode cX6_comes 25 = .ok (.iload 5, 2) := by decide +kernel
theorem dX6_comes_27 : decode cX6_comes 27 = .ok (.imul, 1) := by decide +kernel
theorem dX6_comes_28 : decode cX6_comes 28 = .ok (.iadd, 1) := by decide +kernel
theorem dX6_comes_29 : decode cX6_comes 29 = .ok (.iconst 1, 1) := by decide +kernel
theorem dX6_comes_30 : decode cX6_comes 30 = .ok (.iastore, 1) := by decide +kernel
theorem dX6_comes_31 : decode cX6_comes 31 = .ok (.aload_n 0, 1) := by decide +kernel
theorem dX6_comes_32 : decode cX6_comes 32 = .ok (.getfield 7, 3) := by decide +kernel
theorem dX6_comes_35 : decode cX6_comes 35 = .ok (.sipush 10075, 3) := by decide +kernel
theorem dX6_comes_38 : decode cX6_comes 38 = .ok (.iconst 4, 1) := by decide +kernel
theorem dX6_comes_39 : decode cX6_comes 39 = .ok (.iload 5, 2) := by decide +kernel
theorem dX6_comes_41 : decode cX6_comes 41 = .ok (.imul, 1) := by decide +kernel
theorem dX6_comes_42 : decode cX6_comes 42 = .ok (.iadd, 1) := by decide +kernel
theorem dX6_comes_43 : decode cX6_comes 43 = .ok (.iconst 1, 1) := by decide +kernel
theorem dX6_comes_44 : decode cX6_comes 44 = .ok (.iadd, 1) := by decide +kernel
theorem dX6_comes_45 : decode cX6_comes 45 = .ok (.iload_n 2, 1) := by decide +kernel
theorem dX6_comes_46 : decode cX6_comes 46 = .ok (.ifCond .eq 7, 3) := by decide +kernel
theorem dX6_comes_49 : decode cX6_comes 49 = .ok (.iconst 1, 1) := by decide +kernel
theorem dX6_comes_50 : decode cX6_comes 50 = .ok (.goto 4, 3) := by decide +kernel
theorem dX6_comes_53 : decode cX6_comes 53 = .ok (.iconst 0, 1) := by decide +kernel
theorem dX6_comes_54 : decode cX6_comes 54 = .ok (.iastore, 1) := by decide +kernel
theorem dX6_comes_55 : decode cX6_comes 55 = .ok (.aload_n 0, 1) := by decide +kernel
theorem dX6_comes_56 : decode cX6_comes 56 = .ok (.getfield 7, 3) := by decide +kernel
theorem dX6_comes_59 : decode cX6_comes 59 = .ok (.sipush 10075, 3) := by decide +kernel
theorem dX6_comes_62 : decode cX6_comes 62 = .ok (.iconst 4, 1) := by decide +kernel
theorem dX6_comes_63 : decode cX6_comes 63 = .ok (.iload 5, 2) := by decide +kernel
theorem dX6_comes_65 : decode cX6_comes 65 = .ok (.imul, 1) := by decide +kernel
theorem dX6_comes_66 : decode cX6_comes 66 = .ok (.iadd, 1) := by decide +kernel
theorem dX6_comes_67 : decode cX6_comes 67 = .ok (.iconst 2, 1) := by decide +kernel
theorem dX6_comes_68 : decode cX6_comes 68 = .ok (.iadd, 1) := by decide +kernel
theorem dX6_comes_69 : decode cX6_comes 69 = .ok (.iload_n 3, 1) := by decide +kernel
theorem dX6_comes_70 : decode cX6_comes 70 = .ok (.iastore, 1) := by decide +kernel
theorem dX6_comes_71 : decode cX6_comes 71 = .ok (.aload_n 0, 1) := by decide +kernel
theorem dX6_comes_72 : decode cX6_comes 72 = .ok (.getfield 7, 3) := by decide +kernel
theorem dX6_comes_75 : decode cX6_comes 75 = .ok (.sipush 10075, 3) := by decide +kernel
theorem dX6_comes_78 : decode cX6_comes 78 = .ok (.iconst 4, 1) := by decide +kernel
theorem dX6_comes_79 : decode cX6_comes 79 = .ok (.iload 5, 2) := by decide +kernel
theorem dX6_comes_81 : decode cX6_comes 81 = .ok (.imul, 1) := by decide +kernel
theorem dX6_comes_82 : decode cX6_comes 82 = .ok (.iadd, 1) := by decide +kernel
theorem dX6_comes_83 : decode cX6_comes 83 = .ok (.iconst 3, 1) := by decide +kernel
theorem dX6_comes_84 : decode cX6_comes 84 = .ok (.iadd, 1) := by decide +kernel
theorem dX6_comes_85 : decode cX6_comes 85 = .ok (.iload 4, 2) := by decide +kernel
theorem dX6_comes_87 : decode cX6_comes 87 = .ok (.iastore, 1) := by decide +kernel
theorem dX6_comes_88 : decode cX6_comes 88 = .ok (.aload_n 0, 1) := by decide +kernel
theorem dX6_comes_89 : decode cX6_comes 89 = .ok (.getfield 7, 3) := by decide +kernel
theorem dX6_comes_92 : decode cX6_comes 92 = .ok (.sipush 10171, 3) := by decide +kernel
theorem dX6_comes_95 : decode cX6_comes 95 = .ok (.dup2, 1) := by decide +kernel
theorem dX6_comes_96 : decode cX6_comes 96 = .ok (.iaload, 1) := by decide +kernel
theorem dX6_comes_97 : decode cX6_comes 97 = .ok (.iconst 1, 1) := by decide +kernel
theorem dX6_comes_98 : decode cX6_comes 98 = .ok (.iadd, 1) := by decide +kernel
theorem dX6_comes_99 : decode cX6_comes 99 = .ok (.iastore, 1) := by decide +kernel
theorem dX6_comes_100 : decode cX6_comes 100 = .ok (.iload 5, 2) := by decide +kernel
theorem dX6_comes_102 : decode cX6_comes 102 = .ok (.ireturn, 1) := by decide +kernel
set_option maxRecDepth 20000 in
theorem ggX6_push_X6_no : GoodIn wsX6_push wsX6_no := goodIn_r _ [5, 6, 7, 8, 4, 9, 71, 72, 73, 74, 75, 76, 77, 78, 79] (by decide +kernel) (by decide +kernel)
set_option maxRecDepth 20000 in
theorem gX6_push_X6_no : GoodIn wsX6_push (wsV RX6 67 RX6 yX6_no wsX6_no) := goodIn_app (goodIn_of _ (by decide +kernel)) ggX6_push_X6_no
set_option maxRecDepth 20000 in
theorem ggX6_push_X6_in : GoodIn wsX6_push wsX6_in := goodIn_r _ [9] (by decide +kernel) (by decide +kernel)
set_option maxRecDepth 20000 in
theorem gX6_push_X6_in : GoodIn wsX6_push (va_wsS RX6 24 yX6_in wsX6_in) := goodIn_app (goodIn_of _ (by decide +kernel)) ggX6_push_X6_in
set_option maxRecDepth 20000 in
theorem ggX6_push_X6_first : GoodIn wsX6_push wsX6_first := goodIn_r _ [13, 6, 71, 72, 73, 74, 75, 76, 77, 78, 79] (by decide +kernel) (by decide +kernel)
set_option maxRecDepth 20000 in
theorem gX6_push_X6_first : GoodIn wsX6_push (wsV RX6 36 RX6 yX6_first wsX6_first) := goodIn_app (goodIn_of _ (by decide +kernel)) ggX6_push_X6_first
set_option maxRecDepth 20000 in
theorem ggX6_push_X6_length : GoodIn wsX6_push wsX6_length := goodIn_r _ [17, 6, 18, 19, 20, 4, 21, 22, 23, 24, 25, 71, 72, 73, 74, 75, 76, 77, 78, 79] (by decide +kernel) (by decide +kernel)
set_option maxRecDepth 20000 in
theorem gX6_push_X6_length : GoodIn wsX6_push (wsV RX6 70 RX6 yX6_length wsX6_length) := goodIn_app (goodIn_of _ (by decide +kernel)) ggX6_push_X6_length
set_option maxRecDepth 20000 in
theorem ggX6_push_X6_rowLength : GoodIn wsX6_push wsX6_rowLength := goodIn_r _ [25, 6, 71, 72, 73, 74, 75, 76, 77, 78, 79] (by decide +kernel) (by decide +kernel)
set_option maxRecDepth 20000 in
theorem gX6_push_X6_rowLength : GoodIn wsX6_push (wsV RX6 32 RX6 yX6_rowLength wsX6_rowLength) := goodIn_app (goodIn_of _ (by decide +kernel)) ggX6_push_X6_rowLength
set_option maxRecDepth 20000 in
theorem ggX6_push_X6_isFull : GoodIn wsX6_push wsX6_isFull := goodIn_r _ [29, 6, 71, 72, 73, 74, 75, 76, 77, 78, 79] (by decide +kernel) (by decide +kernel)
set_option maxRecDepth 20000 in
theorem gX6_push_X6_isFull : GoodIn wsX6_push (wsV RX6 73 RX6 yX6_isFull wsX6_isFull) := goodIn_app (goodIn_of _ (by decide +kernel)) ggX6_push_X6_isFull
set_option maxRecDepth 20000 in
theorem ggX6_push_X6_record : GoodIn wsX6_push wsX6_record := goodIn_r _ [33, 34, 35, 6, 71, 72, 73, 74, 75, 76, 77, 78, 79] (by decide +kernel) (by decide +kernel)
set_option maxRecDepth 20000 in
theorem gX6_push_X6_record : GoodIn wsX6_push (wsV RX6 77 RX6 yX6_record wsX6_record) := goodIn_app (goodIn_of _ (by decide +kernel)) ggX6_push_X6_record
set_option maxRecDepth 20000 in
theorem ggX6_push_X6_isWindow : GoodIn wsX6_push wsX6_isWindow := goodIn_r _ [21, 6, 71, 72, 73, 74, 75, 76, 77, 78, 79] (by decide +kernel) (by decide +kernel)
set_option maxRecDepth 20000 in
theorem gX6_push_X6_isWindow : GoodIn wsX6_push (wsV RX6 28 RX6 yX6_isWindow wsX6_isWindow) := goodIn_app (goodIn_of _ (by decide +kernel)) ggX6_push_X6_isWindow
set_option maxRecDepth 20000 in
theorem ggX6_push_X6_comes : GoodIn wsX6_push wsX6_comes := goodIn_r _ [39, 6, 40, 41, 42, 4, 43, 71, 72, 73, 74, 75, 76, 77, 78, 79] (by decide +kernel) (by decide +kernel)
set_option maxRecDepth 20000 in
theorem gX6_push_X6_comes : GoodIn wsX6_push (wsV RX6 80 RX6 yX6_comes wsX6_comes) := goodIn_app (goodIn_of _ (by decide +kernel)) ggX6_push_X6_comes
set_option maxRecDepth 20000 in
theorem ggX6_push_X6_pushes : GoodIn wsX6_push wsX6_pushes := goodIn_r _ [47, 6, 22, 23, 24, 4, 25, 48, 49, 50, 51, 52, 53, 54, 55, 56, 57, 58, 59, 60, 61, 62, 63, 64, 65, 66, 71, 72, 73, 74, 75, 76, 77, 78, 79] (by decide +kernel) (by decide +kernel)
set_option maxRecDepth 20000 in
theorem gX6_push_X6_pushes : GoodIn wsX6_push (wsV RX6 84 RX6 yX6_pushes wsX6_pushes) := goodIn_app (goodIn_of _ (by decide +kernel)) ggX6_push_X6_pushes
set_option maxRecDepth 20000 in
theorem ggX6_push_X6_sets : GoodIn wsX6_push wsX6_sets := goodIn_r _ [70, 6, 22, 23, 24, 4, 25, 48, 49, 50, 58, 59, 60, 61, 62, 63, 51, 52, 53, 54, 55, 56, 57, 71, 72, 73, 74, 75, 76, 77, 78, 79] (by decide +kernel) (by decide +kernel)
set_option maxRecDepth 20000 in
theorem gX6_push_X6_sets : GoodIn wsX6_push (wsV RX6 87 RX6 yX6_sets wsX6_sets) := goodIn_app (goodIn_of _ (by decide +kernel)) ggX6_push_X6_sets
theorem dX6_push_0 : decode cX6_push 0 = .ok (.aload_n 0, 1) := by decide +kernel
theorem dX6_push_1 : decode cX6_push 1 = .ok (.iload_n 1, 1) := by decide +kernel
theorem dX6_push_2 : decode cX6_push 2 = .ok (.invokevirtual 67, 3) := by decide +kernel
theorem dX6_push_5 : decode cX6_push 5 = .ok (.ifCond .eq 5, 3) := by decide +kernel
theorem dX6_push_8 : decode cX6_push 8 = .ok (.iconst (-1), 1) := by decide +kernel
theorem dX6_push_9 : decode cX6_push 9 = .ok (.ireturn, 1) := by decide +kernel
theorem dX6_push_10 : decode cX6_push 10 = .ok (.iload_n 2, 1) := by decide +kernel
theorem dX6_push_11 : decode cX6_push 11 = .ok (.iconst 0, 1) := by decide +kernel
theorem dX6_push_12 : decode cX6_push 12 = .ok (.sipush 999, 3) := by decide +kernel
theorem dX6_push_15 : decode cX6_push 15 = .ok (.invokestatic 24, 3) := by decide +kernel
theorem dX6_push_18 : decode cX6_push 18 = .ok (.ifCond .ne 6, 3) := by decide +kernel
theorem dX6_push_21 : decode cX6_push 21 = .ok (.bipush (-2), 2) := by decide +kernel
theorem dX6_push_23 : decode cX6_push 23 = .ok (.ireturn, 1) := by decide +kernel
theorem dX6_push_24 : decode cX6_push 24 = .ok (.aload_n 0, 1) := by decide +kernel
theorem dX6_push_25 : decode cX6_push 25 = .ok (.iload_n 1, 1) := by decide +kernel
theorem dX6_push_26 : decode cX6_push 26 = .ok (.invokevirtual 36, 3) := by decide +kernel
theorem dX6_push_29 : decode cX6_push 29 = .ok (.aload_n 0, 1) := by decide +kernel
theorem dX6_push_30 : decode cX6_push 30 = .ok (.iload_n 1, 1) := by decide +kernel
theorem dX6_push_31 : decode cX6_push 31 = .ok (.invokevirtual 70, 3) := by decide +kernel
theorem dX6_push_34 : decode cX6_push 34 = .ok (.iadd, 1) := by decide +kernel
theorem dX6_push_35 : decode cX6_push 35 = .ok (.istore_n 3, 1) := by decide +kernel
theorem dX6_push_36 : decode cX6_push 36 = .ok (.iload_n 3, 1) := by decide +kernel
theorem dX6_push_37 : decode cX6_push 37 = .ok (.aload_n 0, 1) := by decide +kernel
theorem dX6_push_38 : decode cX6_push 38 = .ok (.iload_n 1, 1) := by decide +kernel
theorem dX6_push_39 : decode cX6_push 39 = .ok (.invokevirtual 32, 3) := by decide +kernel
theorem dX6_push_42 : decode cX6_push 42 = .ok (.if_icmp .ne 7, 3) := by decide +kernel
theorem dX6_push_45 : decode cX6_push 45 = .ok (.iconst 1, 1) := by decide +kernel
theorem dX6_push_46 : decode cX6_push 46 = .ok (.goto 4, 3) := by decide +kernel
theorem dX6_push_49 : decode cX6_push 49 = .ok (.iconst 0, 1) := by decide +kernel
theorem dX6_push_50 : decode cX6_push 50 = .ok (.istore 4, 2) := by decide +kernel
theorem dX6_push_52 : decode cX6_push 52 = .ok (.aload_n 0, 1) := by decide +kernel
theorem dX6_push_53 : decode cX6_push 53 = .ok (.invokevirtual 73, 3) := by decide +kernel
theorem dX6_push_56 : decode cX6_push 56 = .ok (.ifCond .ne 15, 3) := by decide +kernel
theorem dX6_push_59 : decode cX6_push 59 = .ok (.iload 4, 2) := by decide +kernel
theorem dX6_push_61 : decode cX6_push 61 = .ok (.ifCond .eq 13, 3) := by decide +kernel
theorem dX6_push_64 : decode cX6_push 64 = .ok (.iload_n 3, 1) := by decide +kernel
theorem dX6_push_65 : decode cX6_push 65 = .ok (.sipush 300, 3) := by decide +kernel
theorem dX6_push_68 : decode cX6_push 68 = .ok (.if_icmp .ne 6, 3) := by decide +kernel
theorem dX6_push_71 : decode cX6_push 71 = .ok (.bipush (-3), 2) := by decide +kernel
theorem dX6_push_73 : decode cX6_push 73 = .ok (.ireturn, 1) := by decide +kernel
theorem dX6_push_74 : decode cX6_push 74 = .ok (.aload_n 0, 1) := by decide +kernel
theorem dX6_push_75 : decode cX6_push 75 = .ok (.invokevirtual 77, 3) := by decide +kernel
theorem dX6_push_78 : decode cX6_push 78 = .ok (.aload_n 0, 1) := by decide +kernel
theorem dX6_push_79 : decode cX6_push 79 = .ok (.iload_n 1, 1) := by decide +kernel
theorem dX6_push_80 : decode cX6_push 80 = .ok (.aload_n 0, 1) := by decide +kernel
theorem dX6_push_81 : decode cX6_push 81 = .ok (.iload_n 1, 1) := by decide +kernel
theorem dX6_push_82 : decode cX6_push 82 = .ok (.invokevirtual 28, 3) := by decide +kernel
theorem dX6_push_85 : decode cX6_push 85 = .ok (.aload_n 0, 1) := by decide +kernel
theorem dX6_push_86 : decode cX6_push 86 = .ok (.iload_n 1, 1) := by decide +kernel
theorem dX6_push_87 : decode cX6_push 87 = .ok (.invokevirtual 36, 3) := by decide +kernel
theorem dX6_push_90 : decode cX6_push 90 = .ok (.aload_n 0, 1) := by decide +kernel
theorem dX6_push_91 : decode cX6_push 91 = .ok (.iload_n 1, 1) := by decide +kernel
theorem dX6_push_92 : decode cX6_push 92 = .ok (.invokevirtual 28, 3) := by decide +kernel
theorem dX6_push_95 : decode cX6_push 95 = .ok (.ifCond .eq 13, 3) := by decide +kernel
theorem dX6_push_98 : decode cX6_push 98 = .ok (.aload_n 0, 1) := by decide +kernel
theorem dX6_push_99 : decode cX6_push 99 = .ok (.iload_n 1, 1) := by decide +kernel
theorem dX6_push_100 : decode cX6_push 100 = .ok (.invokevirtual 70, 3) := by decide +kernel
theorem dX6_push_103 : decode cX6_push 103 = .ok (.iconst 1, 1) := by decide +kernel
theorem dX6_push_104 : decode cX6_push 104 = .ok (.iadd, 1) := by decide +kernel
theorem dX6_push_105 : decode cX6_push 105 = .ok (.goto 4, 3) := by decide +kernel
theorem dX6_push_108 : decode cX6_push 108 = .ok (.iconst 0, 1) := by decide +kernel
theorem dX6_push_109 : decode cX6_push 109 = .ok (.invokevirtual 80, 3) := by decide +kernel
theorem dX6_push_112 : decode cX6_push 112 = .ok (.istore 5, 2) := by decide +kernel
theorem dX6_push_114 : decode cX6_push 114 = .ok (.iload 4, 2) := by decide +kernel
theorem dX6_push_116 : decode cX6_push 116 = .ok (.ifCond .eq 13, 3) := by decide +kernel
theorem dX6_push_119 : decode cX6_push 119 = .ok (.aload_n 0, 1) := by decide +kernel
theorem dX6_push_120 : decode cX6_push 120 = .ok (.iload 5, 2) := by decide +kernel
theorem dX6_push_122 : decode cX6_push 122 = .ok (.iload_n 2, 1) := by decide +kernel
theorem dX6_push_123 : decode cX6_push 123 = .ok (.invokevirtual 84, 3) := by decide +kernel
theorem dX6_push_126 : decode cX6_push 126 = .ok (.goto 11, 3) := by decide +kernel
theorem dX6_push_129 : decode cX6_push 129 = .ok (.aload_n 0, 1) := by decide +kernel
theorem dX6_push_130 : decode cX6_push 130 = .ok (.iload 5, 2) := by decide +kernel
theorem dX6_push_132 : decode cX6_push 132 = .ok (.iload_n 3, 1) := by decide +kernel
theorem dX6_push_133 : decode cX6_push 133 = .ok (.iload_n 2, 1) := by decide +kernel
theorem dX6_push_134 : decode cX6_push 134 = .ok (.invokevirtual 87, 3) := by decide +kernel
theorem dX6_push_137 : decode cX6_push 137 = .ok (.iload 5, 2) := by decide +kernel
theorem dX6_push_139 : decode cX6_push 139 = .ok (.ireturn, 1) := by decide +kernel
set_option maxRecDepth 20000 in
theorem ggX6_set_X6_no : GoodIn wsX6_set wsX6_no := goodIn_r _ [5, 6, 7, 8, 4, 9, 64, 65, 66, 67, 68, 69, 70, 71, 72] (by decide +kernel) (by decide +kernel)
set_option maxRecDepth 20000 in
theorem gX6_set_X6_no : GoodIn wsX6_set (wsV RX6 67 RX6 yX6_no wsX6_no) := goodIn_app (goodIn_of _ (by decide +kernel)) ggX6_set_X6_no
set_option maxRecDepth 20000 in
theorem ggX6_set_X6_length : GoodIn wsX6_set wsX6_length := goodIn_r _ [13, 6, 14, 15, 16, 4, 17, 18, 19, 20, 21, 64, 65, 66, 67, 68, 69, 70, 71, 72] (by decide +kernel) (by decide +kernel)
set_option maxRecDepth 20000 in
theorem gX6_set_X6_length : GoodIn wsX6_set (wsV RX6 70 RX6 yX6_length wsX6_length) := goodIn_app (goodIn_of _ (by decide +kernel)) ggX6_set_X6_length
set_option maxRecDepth 20000 in
theorem ggX6_set_X6_in : GoodIn wsX6_set wsX6_in := goodIn_r _ [9] (by decide +kernel) (by decide +kernel)
set_option maxRecDepth 20000 in
theorem gX6_set_X6_in : GoodIn wsX6_set (va_wsS RX6 24 yX6_in wsX6_in) := goodIn_app (goodIn_of _ (by decide +kernel)) ggX6_set_X6_in
set_option maxRecDepth 20000 in
theorem ggX6_set_X6_isFull : GoodIn wsX6_set wsX6_isFull := goodIn_r _ [25, 6, 64, 65, 66, 67, 68, 69, 70, 71, 72] (by decide +kernel) (by decide +kernel)
set_option maxRecDepth 20000 in
theorem gX6_set_X6_isFull : GoodIn wsX6_set (wsV RX6 73 RX6 yX6_isFull wsX6_isFull) := goodIn_app (goodIn_of _ (by decide +kernel)) ggX6_set_X6_isFull
set_option maxRecDepth 20000 in
theorem ggX6_set_X6_record : GoodIn wsX6_set wsX6_record := goodIn_r _ [29, 30, 31, 6, 64, 65, 66, 67, 68, 69, 70, 71, 72] (by decide +kernel) (by decide +kernel)
set_option maxRecDepth 20000 in
theorem gX6_set_X6_record : GoodIn wsX6_set (wsV RX6 77 RX6 yX6_record wsX6_record) := goodIn_app (goodIn_of _ (by decide +kernel)) ggX6_set_X6_record
set_option maxRecDepth 20000 in
theorem ggX6_set_X6_isWindow : GoodIn wsX6_set wsX6_isWindow := goodIn_r _ [17, 6, 64, 65, 66, 67, 68, 69, 70, 71, 72] (by decide +kernel) (by decide +kernel)
set_option maxRecDepth 20000 in
theorem gX6_set_X6_isWindow : GoodIn wsX6_set (wsV RX6 28 RX6 yX6_isWindow wsX6_isWindow) := goodIn_app (goodIn_of _ (by decide +kernel)) ggX6_set_X6_isWindow
set_option maxRecDepth 20000 in
theorem ggX6_set_X6_first : GoodIn wsX6_set wsX6_first := goodIn_r _ [35, 6, 64, 65, 66, 67, 68, 69, 70, 71, 72] (by decide +kernel) (by decide +kernel)
set_option maxRecDepth 20000 in
theorem gX6_set_X6_first : GoodIn wsX6_set (wsV RX6 36 RX6 yX6_first wsX6_first) := goodIn_app (goodIn_of _ (by decide +kernel)) ggX6_set_X6_first
set_option maxRecDepth 20000 in
theorem ggX6_set_X6_comes : GoodIn wsX6_set wsX6_comes := goodIn_r _ [39, 6, 40, 41, 42, 4, 43, 64, 65, 66, 67, 68, 69, 70, 71, 72] (by decide +kernel) (by decide +kernel)
set_option maxRecDepth 20000 in
theorem gX6_set_X6_comes : GoodIn wsX6_set (wsV RX6 80 RX6 yX6_comes wsX6_comes) := goodIn_app (goodIn_of _ (by decide +kernel)) ggX6_set_X6_comes
set_option maxRecDepth 20000 in
theorem ggX6_set_X6_sets : GoodIn wsX6_set wsX6_sets := goodIn_r _ [47, 6, 18, 19, 20, 4, 21, 48, 49, 50, 51, 52, 53, 54, 55, 56, 57, 58, 59, 60, 61, 62, 63, 64, 65, 66, 67, 68, 69, 70, 71, 72] (by decide +kernel) (by decide +kernel)
set_option maxRecDepth 20000 in
theorem gX6_set_X6_sets : GoodIn wsX6_set (wsV RX6 87 RX6 yX6_sets wsX6_sets) := goodIn_app (goodIn_of _ (by decide +kernel)) ggX6_set_X6_sets
theorem dX6_set_0 : decode cX6_set 0 = .ok (.aload_n 0, 1) := by decide +kernel
theorem dX6_set_1 : decode cX6_set 1 = .ok (.iload_n 1, 1) := by decide +kernel
theorem dX6_set_2 : decode cX6_set 2 = .ok (.invokevirtual 67, 3) := by decide +kernel
theorem dX6_set_5 : decode cX6_set 5 = .ok (.ifCond .ne 18, 3) := by decide +kernel
theorem dX6_set_8 : decode cX6_set 8 = .ok (.iload_n 2, 1) := by decide +kernel
theorem dX6_set_9 : decode cX6_set 9 = .ok (.iconst 0, 1) := by decide +kernel
theorem dX6_set_10 : decode cX6_set 10 = .ok (.aload_n 0, 1) := by decide +kernel
theorem dX6_set_11 : decode cX6_set 11 = .ok (.iload_n 1, 1) := by decide +kernel
theorem dX6_set_12 : decode cX6_set 12 = .ok (.invokevirtual 70, 3) := by decide +kernel
theorem dX6_set_15 : decode cX6_set 15 = .ok (.iconst 1, 1) := by decide +kernel
theorem dX6_set_16 : decode cX6_set 16 = .ok (.isub, 1) := by decide +kernel
theorem dX6_set_17 : decode cX6_set 17 = .ok (.invokestatic 24, 3) := by decide +kernel
theorem dX6_set_20 : decode cX6_set 20 = .ok (.ifCond .ne 5, 3) := by decide +kernel
theorem dX6_set_23 : decode cX6_set 23 = .ok (.iconst (-1), 1) := by decide +kernel
theorem dX6_set_24 : decode cX6_set 24 = .ok (.ireturn, 1) := by decide +kernel
theorem dX6_set_25 : decode cX6_set 25 = .ok (.iload_n 3, 1) := by decide +kernel
theorem dX6_set_26 : decode cX6_set 26 = .ok (.iconst 0, 1) := by decide +kernel
theorem dX6_set_27 : decode cX6_set 27 = .ok (.sipush 999, 3) := by decide +kernel
theorem dX6_set_30 : decode cX6_set 30 = .ok (.invokestatic 24, 3) := by decide +kernel
theorem dX6_set_33 : decode cX6_set 33 = .ok (.ifCond .ne 6, 3) := by decide +kernel
theorem dX6_set_36 : decode cX6_set 36 = .ok (.bipush (-2), 2) := by decide +kernel
theorem dX6_set_38 : decode cX6_set 38 = .ok (.ireturn, 1) := by decide +kernel
theorem dX6_set_39 : decode cX6_set 39 = .ok (.aload_n 0, 1) := by decide +kernel
theorem dX6_set_40 : decode cX6_set 40 = .ok (.invokevirtual 73, 3) := by decide +kernel
theorem dX6_set_43 : decode cX6_set 43 = .ok (.ifCond .eq 6, 3) := by decide +kernel
theorem dX6_set_46 : decode cX6_set 46 = .ok (.bipush (-3), 2) := by decide +kernel
theorem dX6_set_48 : decode cX6_set 48 = .ok (.ireturn, 1) := by decide +kernel
theorem dX6_set_49 : decode cX6_set 49 = .ok (.aload_n 0, 1) := by decide +kernel
theorem dX6_set_50 : decode cX6_set 50 = .ok (.invokevirtual 77, 3) := by decide +kernel
theorem dX6_set_53 : decode cX6_set 53 = .ok (.aload_n 0, 1) := by decide +kernel
theorem dX6_set_54 : decode cX6_set 54 = .ok (.iload_n 1, 1) := by decide +kernel
theorem dX6_set_55 : decode cX6_set 55 = .ok (.aload_n 0, 1) := by decide +kernel
theorem dX6_set_56 : decode cX6_set 56 = .ok (.iload_n 1, 1) := by decide +kernel
theorem dX6_set_57 : decode cX6_set 57 = .ok (.invokevirtual 28, 3) := by decide +kernel
theorem dX6_set_60 : decode cX6_set 60 = .ok (.aload_n 0, 1) := by decide +kernel
theorem dX6_set_61 : decode cX6_set 61 = .ok (.iload_n 1, 1) := by decide +kernel
theorem dX6_set_62 : decode cX6_set 62 = .ok (.invokevirtual 36, 3) := by decide +kernel
theorem dX6_set_65 : decode cX6_set 65 = .ok (.aload_n 0, 1) := by decide +kernel
theorem dX6_set_66 : decode cX6_set 66 = .ok (.iload_n 1, 1) := by decide +kernel
theorem dX6_set_67 : decode cX6_set 67 = .ok (.invokevirtual 28, 3) := by decide +kernel
theorem dX6_set_70 : decode cX6_set 70 = .ok (.ifCond .eq 11, 3) := by decide +kernel
theorem dX6_set_73 : decode cX6_set 73 = .ok (.aload_n 0, 1) := by decide +kernel
theorem dX6_set_74 : decode cX6_set 74 = .ok (.iload_n 1, 1) := by decide +kernel
theorem dX6_set_75 : decode cX6_set 75 = .ok (.invokevirtual 70, 3) := by decide +kernel
theorem dX6_set_78 : decode cX6_set 78 = .ok (.goto 4, 3) := by decide +kernel
theorem dX6_set_81 : decode cX6_set 81 = .ok (.iconst 0, 1) := by decide +kernel
theorem dX6_set_82 : decode cX6_set 82 = .ok (.invokevirtual 80, 3) := by decide +kernel
theorem dX6_set_85 : decode cX6_set 85 = .ok (.istore 4, 2) := by decide +kernel
theorem dX6_set_87 : decode cX6_set 87 = .ok (.aload_n 0, 1) := by decide +kernel
theorem dX6_set_88 : decode cX6_set 88 = .ok (.iload 4, 2) := by decide +kernel
theorem dX6_set_90 : decode cX6_set 90 = .ok (.aload_n 0, 1) := by decide +kernel
theorem dX6_set_91 : decode cX6_set 91 = .ok (.iload_n 1, 1) := by decide +kernel
theorem dX6_set_92 : decode cX6_set 92 = .ok (.invokevirtual 36, 3) := by decide +kernel
theorem dX6_set_95 : decode cX6_set 95 = .ok (.iload_n 2, 1) := by decide +kernel
theorem dX6_set_96 : decode cX6_set 96 = .ok (.iadd, 1) := by decide +kernel
theorem dX6_set_97 : decode cX6_set 97 = .ok (.iload_n 3, 1) := by decide +kernel
theorem dX6_set_98 : decode cX6_set 98 = .ok (.invokevirtual 87, 3) := by decide +kernel
theorem dX6_set_101 : decode cX6_set 101 = .ok (.iload 4, 2) := by decide +kernel
theorem dX6_set_103 : decode cX6_set 103 = .ok (.ireturn, 1) := by decide +kernel
set_option maxRecDepth 20000 in
theorem ggX6_pop_X6_no : GoodIn wsX6_pop wsX6_no := goodIn_r _ [5, 6, 7, 8, 4, 9, 67, 68, 69, 70, 71, 72, 73, 74, 75] (by decide +kernel) (by decide +kernel)
set_option maxRecDepth 20000 in
theorem gX6_pop_X6_no : GoodIn wsX6_pop (wsV RX6 67 RX6 yX6_no wsX6_no) := goodIn_app (goodIn_of _ (by decide +kernel)) ggX6_pop_X6_no
set_option maxRecDepth 20000 in
theorem ggX6_pop_X6_length : GoodIn wsX6_pop wsX6_length := goodIn_r _ [13, 6, 14, 15, 16, 4, 17, 18, 19, 20, 21, 67, 68, 69, 70, 71, 72, 73, 74, 75] (by decide +kernel) (by decide +kernel)
set_option maxRecDepth 20000 in
theorem gX6_pop_X6_length : GoodIn wsX6_pop (wsV RX6 70 RX6 yX6_length wsX6_length) := goodIn_app (goodIn_of _ (by decide +kernel)) ggX6_pop_X6_length
set_option maxRecDepth 20000 in
theorem ggX6_pop_X6_isFull : GoodIn wsX6_pop wsX6_isFull := goodIn_r _ [25, 6, 67, 68, 69, 70, 71, 72, 73, 74, 75] (by decide +kernel) (by decide +kernel)
set_option maxRecDepth 20000 in
theorem gX6_pop_X6_isFull : GoodIn wsX6_pop (wsV RX6 73 RX6 yX6_isFull wsX6_isFull) := goodIn_app (goodIn_of _ (by decide +kernel)) ggX6_pop_X6_isFull
set_option maxRecDepth 20000 in
theorem ggX6_pop_X6_record : GoodIn wsX6_pop wsX6_record := goodIn_r _ [29, 30, 31, 6, 67, 68, 69, 70, 71, 72, 73, 74, 75] (by decide +kernel) (by decide +kernel)
set_option maxRecDepth 20000 in
theorem gX6_pop_X6_record : GoodIn wsX6_pop (wsV RX6 77 RX6 yX6_record wsX6_record) := goodIn_app (goodIn_of _ (by decide +kernel)) ggX6_pop_X6_record
set_option maxRecDepth 20000 in
theorem ggX6_pop_X6_isWindow : GoodIn wsX6_pop wsX6_isWindow := goodIn_r _ [17, 6, 67, 68, 69, 70, 71, 72, 73, 74, 75] (by decide +kernel) (by decide +kernel)
set_option maxRecDepth 20000 in
theorem gX6_pop_X6_isWindow : GoodIn wsX6_pop (wsV RX6 28 RX6 yX6_isWindow wsX6_isWindow) := goodIn_app (goodIn_of _ (by decide +kernel)) ggX6_pop_X6_isWindow
set_option maxRecDepth 20000 in
theorem ggX6_pop_X6_first : GoodIn wsX6_pop wsX6_first := goodIn_r _ [35, 6, 67, 68, 69, 70, 71, 72, 73, 74, 75] (by decide +kernel) (by decide +kernel)
set_option maxRecDepth 20000 in
theorem gX6_pop_X6_first : GoodIn wsX6_pop (wsV RX6 36 RX6 yX6_first wsX6_first) := goodIn_app (goodIn_of _ (by decide +kernel)) ggX6_pop_X6_first
set_option maxRecDepth 20000 in
theorem ggX6_pop_X6_comes : GoodIn wsX6_pop wsX6_comes := goodIn_r _ [39, 6, 40, 41, 42, 4, 43, 67, 68, 69, 70, 71, 72, 73, 74, 75] (by decide +kernel) (by decide +kernel)
set_option maxRecDepth 20000 in
theorem gX6_pop_X6_comes : GoodIn wsX6_pop (wsV RX6 80 RX6 yX6_comes wsX6_comes) := goodIn_app (goodIn_of _ (by decide +kernel)) ggX6_pop_X6_comes
set_option maxRecDepth 20000 in
theorem ggX6_pop_X6_pops : GoodIn wsX6_pop wsX6_pops := goodIn_r _ [47, 6, 18, 19, 20, 4, 21, 48, 49, 50, 51, 52, 53, 54, 55, 56, 57, 58, 59, 60, 61, 62, 63, 64, 65, 66, 67, 68, 69, 70, 71, 72, 73, 74, 75] (by decide +kernel) (by decide +kernel)
set_option maxRecDepth 20000 in
theorem gX6_pop_X6_pops : GoodIn wsX6_pop (wsV RX6 91 RX6 yX6_pops wsX6_pops) := goodIn_app (goodIn_of _ (by decide +kernel)) ggX6_pop_X6_pops
theorem dX6_pop_0 : decode cX6_pop 0 = .ok (.aload_n 0, 1) := by decide +kernel
theorem dX6_pop_1 : decode cX6_pop 1 = .ok (.iload_n 1, 1) := by decide +kernel
theorem dX6_pop_2 : decode cX6_pop 2 = .ok (.invokevirtual 67, 3) := by decide +kernel
theorem dX6_pop_5 : decode cX6_pop 5 = .ok (.ifCond .eq 5, 3) := by decide +kernel
theorem dX6_pop_8 : decode cX6_pop 8 = .ok (.iconst (-1), 1) := by decide +kernel
theorem dX6_pop_9 : decode cX6_pop 9 = .ok (.ireturn, 1) := by decide +kernel
theorem dX6_pop_10 : decode cX6_pop 10 = .ok (.aload_n 0, 1) := by decide +kernel
theorem dX6_pop_11 : decode cX6_pop 11 = .ok (.iload_n 1, 1) := by decide +kernel
theorem dX6_pop_12 : decode cX6_pop 12 = .ok (.invokevirtual 70, 3) := by decide +kernel
theorem dX6_pop_15 : decode cX6_pop 15 = .ok (.ifCond .ne 6, 3) := by decide +kernel
theorem dX6_pop_18 : decode cX6_pop 18 = .ok (.bipush (-4), 2) := by decide +kernel
theorem dX6_pop_20 : decode cX6_pop 20 = .ok (.ireturn, 1) := by decide +kernel
theorem dX6_pop_21 : decode cX6_pop 21 = .ok (.aload_n 0, 1) := by decide +kernel
theorem dX6_pop_22 : decode cX6_pop 22 = .ok (.invokevirtual 73, 3) := by decide +kernel
theorem dX6_pop_25 : decode cX6_pop 25 = .ok (.ifCond .eq 6, 3) := by decide +kernel
theorem dX6_pop_28 : decode cX6_pop 28 = .ok (.bipush (-3), 2) := by decide +kernel
theorem dX6_pop_30 : decode cX6_pop 30 = .ok (.ireturn, 1) := by decide +kernel
theorem dX6_pop_31 : decode cX6_pop 31 = .ok (.aload_n 0, 1) := by decide +kernel
theorem dX6_pop_32 : decode cX6_pop 32 = .ok (.invokevirtual 77, 3) := by decide +kernel
theorem dX6_pop_35 : decode cX6_pop 35 = .ok (.aload_n 0, 1) := by decide +kernel
theorem dX6_pop_36 : decode cX6_pop 36 = .ok (.iload_n 1, 1) := by decide +kernel
theorem dX6_pop_37 : decode cX6_pop 37 = .ok (.invokevirtual 28, 3) := by decide +kernel
theorem dX6_pop_40 : decode cX6_pop 40 = .ok (.ifCond .eq 22, 3) := by decide +kernel
theorem dX6_pop_43 : decode cX6_pop 43 = .ok (.aload_n 0, 1) := by decide +kernel
theorem dX6_pop_44 : decode cX6_pop 44 = .ok (.iload_n 1, 1) := by decide +kernel
theorem dX6_pop_45 : decode cX6_pop 45 = .ok (.iconst 1, 1) := by decide +kernel
theorem dX6_pop_46 : decode cX6_pop 46 = .ok (.aload_n 0, 1) := by decide +kernel
theorem dX6_pop_47 : decode cX6_pop 47 = .ok (.iload_n 1, 1) := by decide +kernel
theorem dX6_pop_48 : decode cX6_pop 48 = .ok (.invokevirtual 36, 3) := by decide +kernel
theorem dX6_pop_51 : decode cX6_pop 51 = .ok (.aload_n 0, 1) := by decide +kernel
theorem dX6_pop_52 : decode cX6_pop 52 = .ok (.iload_n 1, 1) := by decide +kernel
theorem dX6_pop_53 : decode cX6_pop 53 = .ok (.invokevirtual 70, 3) := by decide +kernel
theorem dX6_pop_56 : decode cX6_pop 56 = .ok (.iconst 1, 1) := by decide +kernel
theorem dX6_pop_57 : decode cX6_pop 57 = .ok (.isub, 1) := by decide +kernel
theorem dX6_pop_58 : decode cX6_pop 58 = .ok (.invokevirtual 80, 3) := by decide +kernel
theorem dX6_pop_61 : decode cX6_pop 61 = .ok (.ireturn, 1) := by decide +kernel
theorem dX6_pop_62 : decode cX6_pop 62 = .ok (.aload_n 0, 1) := by decide +kernel
theorem dX6_pop_63 : decode cX6_pop 63 = .ok (.iload_n 1, 1) := by decide +kernel
theorem dX6_pop_64 : decode cX6_pop 64 = .ok (.iconst 0, 1) := by decide +kernel
theorem dX6_pop_65 : decode cX6_pop 65 = .ok (.iconst 0, 1) := by decide +kernel
theorem dX6_pop_66 : decode cX6_pop 66 = .ok (.iconst 0, 1) := by decide +kernel
theorem dX6_pop_67 : decode cX6_pop 67 = .ok (.invokevirtual 80, 3) := by decide +kernel
theorem dX6_pop_70 : decode cX6_pop 70 = .ok (.istore_n 2, 1) := by decide +kernel
theorem dX6_pop_71 : decode cX6_pop 71 = .ok (.aload_n 0, 1) := by decide +kernel
theorem dX6_pop_72 : decode cX6_pop 72 = .ok (.iload_n 2, 1) := by decide +kernel
theorem dX6_pop_73 : decode cX6_pop 73 = .ok (.invokevirtual 91, 3) := by decide +kernel
theorem dX6_pop_76 : decode cX6_pop 76 = .ok (.iload_n 2, 1) := by decide +kernel
theorem dX6_pop_77 : decode cX6_pop 77 = .ok (.ireturn, 1) := by decide +kernel
set_option maxRecDepth 20000 in
theorem ggX6_window_X6_no : GoodIn wsX6_window wsX6_no := goodIn_r _ [5, 6, 7, 8, 4, 9, 44, 45, 46, 47, 48, 49, 50, 51, 52] (by decide +kernel) (by decide +kernel)
set_option maxRecDepth 20000 in
theorem gX6_window_X6_no : GoodIn wsX6_window (wsV RX6 67 RX6 yX6_no wsX6_no) := goodIn_app (goodIn_of _ (by decide +kernel)) ggX6_window_X6_no
set_option maxRecDepth 20000 in
theorem ggX6_window_X6_length : GoodIn wsX6_window wsX6_length := goodIn_r _ [13, 6, 14, 15, 16, 4, 17, 18, 19, 20, 21, 44, 45, 46, 47, 48, 49, 50, 51, 52] (by decide +kernel) (by decide +kernel)
set_option maxRecDepth 20000 in
theorem gX6_window_X6_length : GoodIn wsX6_window (wsV RX6 70 RX6 yX6_length wsX6_length) := goodIn_app (goodIn_of _ (by decide +kernel)) ggX6_window_X6_length
set_option maxRecDepth 20000 in
theorem ggX6_window_X6_in : GoodIn wsX6_window wsX6_in := goodIn_r _ [9] (by decide +kernel) (by decide +kernel)
set_option maxRecDepth 20000 in
theorem gX6_window_X6_in : GoodIn wsX6_window (va_wsS RX6 24 yX6_in wsX6_in) := goodIn_app (goodIn_of _ (by decide +kernel)) ggX6_window_X6_in
set_option maxRecDepth 20000 in
theorem ggX6_window_X6_isFull : GoodIn wsX6_window wsX6_isFull := goodIn_r _ [25, 6, 44, 45, 46, 47, 48, 49, 50, 51, 52] (by decide +kernel) (by decide +kernel)
set_option maxRecDepth 20000 in
theorem gX6_window_X6_isFull : GoodIn wsX6_window (wsV RX6 73 RX6 yX6_isFull wsX6_isFull) := goodIn_app (goodIn_of _ (by decide +kernel)) ggX6_window_X6_isFull
set_option maxRecDepth 20000 in
theorem ggX6_window_X6_record : GoodIn wsX6_window wsX6_record := goodIn_r _ [29, 30, 31, 6, 44, 45, 46, 47, 48, 49, 50, 51, 52] (by decide +kernel) (by decide +kernel)
set_option maxRecDepth 20000 in
theorem gX6_window_X6_record : GoodIn wsX6_window (wsV RX6 77 RX6 yX6_record wsX6_record) := goodIn_app (goodIn_of _ (by decide +kernel)) ggX6_window_X6_record
set_option maxRecDepth 20000 in
theorem ggX6_window_X6_first : GoodIn wsX6_window wsX6_first := goodIn_r _ [35, 6, 44, 45, 46, 47, 48, 49, 50, 51, 52] (by decide +kernel) (by decide +kernel)
set_option maxRecDepth 20000 in
theorem gX6_window_X6_first : GoodIn wsX6_window (wsV RX6 36 RX6 yX6_first wsX6_first) := goodIn_app (goodIn_of _ (by decide +kernel)) ggX6_window_X6_first
set_option maxRecDepth 20000 in
theorem ggX6_window_X6_comes : GoodIn wsX6_window wsX6_comes := goodIn_r _ [39, 6, 40, 41, 42, 4, 43, 44, 45, 46, 47, 48, 49, 50, 51, 52] (by decide +kernel) (by decide +kernel)
set_option maxRecDepth 20000 in
theorem gX6_window_X6_comes : GoodIn wsX6_window (wsV RX6 80 RX6 yX6_comes wsX6_comes) := goodIn_app (goodIn_of _ (by decide +kernel)) ggX6_window_X6_comes
theorem dX6_window_0 : decode cX6_window 0 = .ok (.aload_n 0, 1) := by decide +kernel
theorem dX6_window_1 : decode cX6_window 1 = .ok (.iload_n 1, 1) := by decide +kernel
theorem dX6_window_2 : decode cX6_window 2 = .ok (.invokevirtual 67, 3) := by decide +kernel
theorem dX6_window_5 : decode cX6_window 5 = .ok (.ifCond .eq 5, 3) := by decide +kernel
theorem dX6_window_8 : decode cX6_window 8 = .ok (.iconst (-1), 1) := by decide +kernel
theorem dX6_window_9 : decode cX6_window 9 = .ok (.ireturn, 1) := by decide +kernel
theorem dX6_window_10 : decode cX6_window 10 = .ok (.iload_n 2, 1) := by decide +kernel
theorem dX6_window_11 : decode cX6_window 11 = .ok (.iconst 0, 1) := by decide +kernel
theorem dX6_window_12 : decode cX6_window 12 = .ok (.aload_n 0, 1) := by decide +kernel
theorem dX6_window_13 : decode cX6_window 13 = .ok (.iload_n 1, 1) := by decide +kernel
theorem dX6_window_14 : decode cX6_window 14 = .ok (.invokevirtual 70, 3) := by decide +kernel
theorem dX6_window_17 : decode cX6_window 17 = .ok (.invokestatic 24, 3) := by decide +kernel
theorem dX6_window_20 : decode cX6_window 20 = .ok (.ifCond .eq 18, 3) := by decide +kernel
theorem dX6_window_23 : decode cX6_window 23 = .ok (.iload_n 3, 1) := by decide +kernel
theorem dX6_window_24 : decode cX6_window 24 = .ok (.iconst 0, 1) := by decide +kernel
theorem dX6_window_25 : decode cX6_window 25 = .ok (.aload_n 0, 1) := by decide +kernel
theorem dX6_window_26 : decode cX6_window 26 = .ok (.iload_n 1, 1) := by decide +kernel
theorem dX6_window_27 : decode cX6_window 27 = .ok (.invokevirtual 70, 3) := by decide +kernel
theorem dX6_window_30 : decode cX6_window 30 = .ok (.iload_n 2, 1) := by decide +kernel
theorem dX6_window_31 : decode cX6_window 31 = .ok (.isub, 1) := by decide +kernel
theorem dX6_window_32 : decode cX6_window 32 = .ok (.invokestatic 24, 3) := by decide +kernel
theorem dX6_window_35 : decode cX6_window 35 = .ok (.ifCond .ne 6, 3) := by decide +kernel
theorem dX6_window_38 : decode cX6_window 38 = .ok (.bipush (-2), 2) := by decide +kernel
theorem dX6_window_40 : decode cX6_window 40 = .ok (.ireturn, 1) := by decide +kernel
theorem dX6_window_41 : decode cX6_window 41 = .ok (.aload_n 0, 1) := by decide +kernel
theorem dX6_window_42 : decode cX6_window 42 = .ok (.invokevirtual 73, 3) := by decide +kernel
theorem dX6_window_45 : decode cX6_window 45 = .ok (.ifCond .eq 6, 3) := by decide +kernel
theorem dX6_window_48 : decode cX6_window 48 = .ok (.bipush (-3), 2) := by decide +kernel
theorem dX6_window_50 : decode cX6_window 50 = .ok (.ireturn, 1) := by decide +kernel
theorem dX6_window_51 : decode cX6_window 51 = .ok (.aload_n 0, 1) := by decide +kernel
theorem dX6_window_52 : decode cX6_window 52 = .ok (.invokevirtual 77, 3) := by decide +kernel
theorem dX6_window_55 : decode cX6_window 55 = .ok (.aload_n 0, 1) := by decide +kernel
theorem dX6_window_56 : decode cX6_window 56 = .ok (.iload_n 1, 1) := by decide +kernel
theorem dX6_window_57 : decode cX6_window 57 = .ok (.iconst 1, 1) := by decide +kernel
theorem dX6_window_58 : decode cX6_window 58 = .ok (.aload_n 0, 1) := by decide +kernel
theorem dX6_window_59 : decode cX6_window 59 = .ok (.iload_n 1, 1) := by decide +kernel
theorem dX6_window_60 : decode cX6_window 60 = .ok (.invokevirtual 36, 3) := by decide +kernel
theorem dX6_window_63 : decode cX6_window 63 = .ok (.iload_n 2, 1) := by decide +kernel
theorem dX6_window_64 : decode cX6_window 64 = .ok (.iadd, 1) := by decide +kernel
theorem dX6_window_65 : decode cX6_window 65 = .ok (.iload_n 3, 1) := by decide +kernel
theorem dX6_window_66 : decode cX6_window 66 = .ok (.invokevirtual 80, 3) := by decide +kernel
theorem dX6_window_69 : decode cX6_window 69 = .ok (.ireturn, 1) := by decide +kernel
theorem dX6_there_0 : decode cX6_there 0 = .ok (.iconst 0, 1) := by decide +kernel
theorem dX6_there_1 : decode cX6_there 1 = .ok (.istore_n 1, 1) := by decide +kernel
theorem dX6_there_2 : decode cX6_there 2 = .ok (.iconst 0, 1) := by decide +kernel
theorem dX6_there_3 : decode cX6_there 3 = .ok (.istore_n 2, 1) := by decide +kernel
theorem dX6_there_4 : decode cX6_there 4 = .ok (.iload_n 2, 1) := by decide +kernel
theorem dX6_there_5 : decode cX6_there 5 = .ok (.aload_n 0, 1) := by decide +kernel
theorem dX6_there_6 : decode cX6_there 6 = .ok (.getfield 7, 3) := by decide +kernel
theorem dX6_there_9 : decode cX6_there 9 = .ok (.sipush 10171, 3) := by decide +kernel
theorem dX6_there_12 : decode cX6_there 12 = .ok (.iaload, 1) := by decide +kernel
theorem dX6_there_13 : decode cX6_there 13 = .ok (.if_icmp .ge 24, 3) := by decide +kernel
theorem dX6_there_16 : decode cX6_there 16 = .ok (.iload_n 1, 1) := by decide +kernel
theorem dX6_there_17 : decode cX6_there 17 = .ok (.aload_n 0, 1) := by decide +kernel
theorem dX6_there_18 : decode cX6_there 18 = .ok (.getfield 7, 3) := by decide +kernel
theorem dX6_there_21 : decode cX6_there 21 = .ok (.sipush 10075, 3) := by decide +kernel
theorem dX6_there_24 : decode cX6_there 24 = .ok (.iconst 4, 1) := by decide +kernel
theorem dX6_there_25 : decode cX6_there 25 = .ok (.iload_n 2, 1) := by decide +kernel
theorem dX6_there_26 : decode cX6_there 26 = .ok (.imul, 1) := by decide +kernel
theorem dX6_there_27 : decode cX6_there 27 = .ok (.iadd, 1) := by decide +kernel
theorem dX6_there_28 : decode cX6_there 28 = .ok (.iaload, 1) := by decide +kernel
theorem dX6_there_29 : decode cX6_there 29 = .ok (.iadd, 1) := by decide +kernel
theorem dX6_there_30 : decode cX6_there 30 = .ok (.istore_n 1, 1) := by decide +kernel
theorem dX6_there_31 : decode cX6_there 31 = .ok (.iinc 2 1, 3) := by decide +kernel
theorem dX6_there_34 : decode cX6_there 34 = .ok (.goto (-30), 3) := by decide +kernel
theorem dX6_there_37 : decode cX6_there 37 = .ok (.iload_n 1, 1) := by decide +kernel
theorem dX6_there_38 : decode cX6_there 38 = .ok (.ireturn, 1) := by decide +kernel
set_option maxRecDepth 20000 in
theorem ggX6_drop_X6_no : GoodIn wsX6_drop wsX6_no := goodIn_r _ [6, 1, 7, 8, 5, 9, 20, 21, 22, 23, 24, 25, 26, 27, 28] (by decide +kernel) (by decide +kernel)
set_option maxRecDepth 20000 in
theorem gX6_drop_X6_no : GoodIn wsX6_drop (wsV RX6 67 RX6 yX6_no wsX6_no) := goodIn_app (goodIn_of _ (by decide +kernel)) ggX6_drop_X6_no
set_option maxRecDepth 20000 in
theorem ggX6_drop_X6_record : GoodIn wsX6_drop wsX6_record := goodIn_r _ [13, 14, 15, 1, 20, 21, 22, 23, 24, 25, 26, 27, 28] (by decide +kernel) (by decide +kernel)
set_option maxRecDepth 20000 in
theorem gX6_drop_X6_record : GoodIn wsX6_drop (wsV RX6 77 RX6 yX6_record wsX6_record) := goodIn_app (goodIn_of _ (by decide +kernel)) ggX6_drop_X6_record
set_option maxRecDepth 20000 in
theorem ggX6_drop_X6_there : GoodIn wsX6_drop wsX6_there := goodIn_r _ [19, 1, 20, 21, 22, 23, 24, 25, 26, 27, 28] (by decide +kernel) (by decide +kernel)
set_option maxRecDepth 20000 in
theorem gX6_drop_X6_there : GoodIn wsX6_drop (wsV RX6 95 RX6 yX6_there wsX6_there) := goodIn_app (goodIn_of _ (by decide +kernel)) ggX6_drop_X6_there
theorem dX6_drop_0 : decode cX6_drop 0 = .ok (.aload_n 0, 1) := by decide +kernel
theorem dX6_drop_1 : decode cX6_drop 1 = .ok (.iload_n 1, 1) := by decide +kernel
theorem dX6_drop_2 : decode cX6_drop 2 = .ok (.invokevirtual 67, 3) := by decide +kernel
theorem dX6_drop_5 : decode cX6_drop 5 = .ok (.ifCond .eq 5, 3) := by decide +kernel
theorem dX6_drop_8 : decode cX6_drop 8 = .ok (.iconst (-1), 1) := by decide +kernel
theorem dX6_drop_9 : decode cX6_drop 9 = .ok (.ireturn, 1) := by decide +kernel
theorem dX6_drop_10 : decode cX6_drop 10 = .ok (.aload_n 0, 1) := by decide +kernel
theorem dX6_drop_11 : decode cX6_drop 11 = .ok (.invokevirtual 77, 3) := by decide +kernel
theorem dX6_drop_14 : decode cX6_drop 14 = .ok (.aload_n 0, 1) := by decide +kernel
theorem dX6_drop_15 : decode cX6_drop 15 = .ok (.getfield 7, 3) := by decide +kernel
theorem dX6_drop_18 : decode cX6_drop 18 = .ok (.sipush 10075, 3) := by decide +kernel
theorem dX6_drop_21 : decode cX6_drop 21 = .ok (.iconst 4, 1) := by decide +kernel
theorem dX6_drop_22 : decode cX6_drop 22 = .ok (.iload_n 1, 1) := by decide +kernel
theorem dX6_drop_23 : decode cX6_drop 23 = .ok (.imul, 1) := by decide +kernel
theorem dX6_drop_24 : decode cX6_drop 24 = .ok (.iadd, 1) := by decide +kernel
theorem dX6_drop_25 : decode cX6_drop 25 = .ok (.iconst 0, 1) := by decide +kernel
theorem dX6_drop_26 : decode cX6_drop 26 = .ok (.iastore, 1) := by decide +kernel
theorem dX6_drop_27 : decode cX6_drop 27 = .ok (.aload_n 0, 1) := by decide +kernel
theorem dX6_drop_28 : decode cX6_drop 28 = .ok (.invokevirtual 95, 3) := by decide +kernel
theorem dX6_drop_31 : decode cX6_drop 31 = .ok (.ireturn, 1) := by decide +kernel
theorem dX6_noEdit_0 : decode cX6_noEdit 0 = .ok (.aload_n 0, 1) := by decide +kernel
theorem dX6_noEdit_1 : decode cX6_noEdit 1 = .ok (.getfield 7, 3) := by decide +kernel
theorem dX6_noEdit_4 : decode cX6_noEdit 4 = .ok (.sipush 10173, 3) := by decide +kernel
theorem dX6_noEdit_7 : decode cX6_noEdit 7 = .ok (.iaload, 1) := by decide +kernel
theorem dX6_noEdit_8 : decode cX6_noEdit 8 = .ok (.ifCond .ne 7, 3) := by decide +kernel
theorem dX6_noEdit_11 : decode cX6_noEdit 11 = .ok (.iconst 1, 1) := by decide +kernel
theorem dX6_noEdit_12 : decode cX6_noEdit 12 = .ok (.goto 4, 3) := by decide +kernel
theorem dX6_noEdit_15 : decode cX6_noEdit 15 = .ok (.iconst 0, 1) := by decide +kernel
theorem dX6_noEdit_16 : decode cX6_noEdit 16 = .ok (.ireturn, 1) := by decide +kernel
set_option maxRecDepth 20000 in
theorem ggX6_begin_X6_no : GoodIn wsX6_begin wsX6_no := goodIn_r _ [6, 1, 7, 8, 5, 9, 32, 33, 34, 35, 36, 37, 38, 39, 40] (by decide +kernel) (by decide +kernel)
set_option maxRecDepth 20000 in
theorem gX6_begin_X6_no : GoodIn wsX6_begin (wsV RX6 67 RX6 yX6_no wsX6_no) := goodIn_app (goodIn_of _ (by decide +kernel)) ggX6_begin_X6_no
set_option maxRecDepth 20000 in
theorem ggX6_begin_X6_noEdit : GoodIn wsX6_begin wsX6_noEdit := goodIn_r _ [13, 1, 32, 33, 34, 35, 36, 37, 38, 39, 40] (by decide +kernel) (by decide +kernel)
set_option maxRecDepth 20000 in
theorem gX6_begin_X6_noEdit : GoodIn wsX6_begin (wsV RX6 99 RX6 yX6_noEdit wsX6_noEdit) := goodIn_app (goodIn_of _ (by decide +kernel)) ggX6_begin_X6_noEdit
set_option maxRecDepth 20000 in
theorem ggX6_begin_X6_isWindow : GoodIn wsX6_begin wsX6_isWindow := goodIn_r _ [17, 1, 32, 33, 34, 35, 36, 37, 38, 39, 40] (by decide +kernel) (by decide +kernel)
set_option maxRecDepth 20000 in
theorem gX6_begin_X6_isWindow : GoodIn wsX6_begin (wsV RX6 28 RX6 yX6_isWindow wsX6_isWindow) := goodIn_app (goodIn_of _ (by decide +kernel)) ggX6_begin_X6_isWindow
set_option maxRecDepth 20000 in
theorem ggX6_begin_X6_record : GoodIn wsX6_begin wsX6_record := goodIn_r _ [21, 22, 23, 1, 32, 33, 34, 35, 36, 37, 38, 39, 40] (by decide +kernel) (by decide +kernel)
set_option maxRecDepth 20000 in
theorem gX6_begin_X6_record : GoodIn wsX6_begin (wsV RX6 77 RX6 yX6_record wsX6_record) := goodIn_app (goodIn_of _ (by decide +kernel)) ggX6_begin_X6_record
set_option maxRecDepth 20000 in
theorem ggX6_begin_X6_copies : GoodIn wsX6_begin wsX6_copies := goodIn_r _ [27, 1, 32, 33, 34, 35, 36, 37, 38, 39, 40] (by decide +kernel) (by decide +kernel)
set_option maxRecDepth 20000 in
theorem gX6_begin_X6_copies : GoodIn wsX6_begin (wsV RX6 63 RX6 yX6_copies wsX6_copies) := goodIn_app (goodIn_of _ (by decide +kernel)) ggX6_begin_X6_copies
set_option maxRecDepth 20000 in
theorem ggX6_begin_X6_rowLength : GoodIn wsX6_begin wsX6_rowLength := goodIn_r _ [31, 1, 32, 33, 34, 35, 36, 37, 38, 39, 40] (by decide +kernel) (by decide +kernel)
set_option maxRecDepth 20000 in
theorem gX6_begin_X6_rowLength : GoodIn wsX6_begin (wsV RX6 32 RX6 yX6_rowLength wsX6_rowLength) := goodIn_app (goodIn_of _ (by decide +kernel)) ggX6_begin_X6_rowLength
theorem dX6_begin_0 : decode cX6_begin 0 = .ok (.aload_n 0, 1) := by decide +kernel
theorem dX6_begin_1 : decode cX6_begin 1 = .ok (.iload_n 1, 1) := by decide +kernel
theorem dX6_begin_2 : decode cX6_begin 2 = .ok (.invokevirtual 67, 3) := by decide +kernel
theorem dX6_begin_5 : decode cX6_begin 5 = .ok (.ifCond .eq 5, 3) := by decide +kernel
theorem dX6_begin_8 : decode cX6_begin 8 = .ok (.iconst (-1), 1) := by decide +kernel
theorem dX6_begin_9 : decode cX6_begin 9 = .ok (.ireturn, 1) := by decide +kernel
theorem dX6_begin_10 : decode cX6_begin 10 = .ok (.aload_n 0, 1) := by decide +kernel
theorem dX6_begin_11 : decode cX6_begin 11 = .ok (.invokevirtual 99, 3) := by decide +kernel
theorem dX6_begin_14 : decode cX6_begin 14 = .ok (.ifCond .eq 11, 3) := by decide +kernel
theorem dX6_begin_17 : decode cX6_begin 17 = .ok (.aload_n 0, 1) := by decide +kernel
theorem dX6_begin_18 : decode cX6_begin 18 = .ok (.iload_n 1, 1) := by decide +kernel
theorem dX6_begin_19 : decode cX6_begin 19 = .ok (.invokevirtual 28, 3) := by decide +kernel
theorem dX6_begin_22 : decode cX6_begin 22 = .ok (.ifCond .eq 6, 3) := by decide +kernel
theorem dX6_begin_25 : decode cX6_begin 25 = .ok (.bipush (-4), 2) := by decide +kernel
theorem dX6_begin_27 : decode cX6_begin 27 = .ok (.ireturn, 1) := by decide +kernel
theorem dX6_begin_28 : decode cX6_begin 28 = .ok (.aload_n 0, 1) := by decide +kernel
theorem dX6_begin_29 : decode cX6_begin 29 = .ok (.invokevirtual 77, 3) := by decide +kernel
theorem dX6_begin_32 : decode cX6_begin 32 = .ok (.aload_n 0, 1) := by decide +kernel
theorem dX6_begin_33 : decode cX6_begin 33 = .ok (.iload_n 1, 1) := by decide +kernel
theorem dX6_begin_34 : decode cX6_begin 34 = .ok (.bipush 24, 2) := by decide +kernel
theorem dX6_begin_36 : decode cX6_begin 36 = .ok (.invokevirtual 63, 3) := by decide +kernel
theorem dX6_begin_39 : decode cX6_begin 39 = .ok (.iconst 0, 1) := by decide +kernel
theorem dX6_begin_40 : decode cX6_begin 40 = .ok (.istore_n 2, 1) := by decide +kernel
theorem dX6_begin_41 : decode cX6_begin 41 = .ok (.iload_n 2, 1) := by decide +kernel
theorem dX6_begin_42 : decode cX6_begin 42 = .ok (.bipush 102, 2) := by decide +kernel
theorem dX6_begin_44 : decode cX6_begin 44 = .ok (.if_icmp .ge 20, 3) := by decide +kernel
theorem dX6_begin_47 : decode cX6_begin 47 = .ok (.aload_n 0, 1) := by decide +kernel
theorem dX6_begin_48 : decode cX6_begin 48 = .ok (.getfield 7, 3) := by decide +kernel
theorem dX6_begin_51 : decode cX6_begin 51 = .ok (.sipush 10174, 3) := by decide +kernel
theorem dX6_begin_54 : decode cX6_begin 54 = .ok (.iload_n 2, 1) := by decide +kernel
theorem dX6_begin_55 : decode cX6_begin 55 = .ok (.iadd, 1) := by decide +kernel
theorem dX6_begin_56 : decode cX6_begin 56 = .ok (.iconst 0, 1) := by decide +kernel
theorem dX6_begin_57 : decode cX6_begin 57 = .ok (.iastore, 1) := by decide +kernel
theorem dX6_begin_58 : decode cX6_begin 58 = .ok (.iinc 2 1, 3) := by decide +kernel
theorem dX6_begin_61 : decode cX6_begin 61 = .ok (.goto (-20), 3) := by decide +kernel
theorem dX6_begin_64 : decode cX6_begin 64 = .ok (.aload_n 0, 1) := by decide +kernel
theorem dX6_begin_65 : decode cX6_begin 65 = .ok (.getfield 7, 3) := by decide +kernel
theorem dX6_begin_68 : decode cX6_begin 68 = .ok (.sipush 10173, 3) := by decide +kernel
theorem dX6_begin_71 : decode cX6_begin 71 = .ok (.iconst 1, 1) := by decide +kernel
theorem dX6_begin_72 : decode cX6_begin 72 = .ok (.iastore, 1) := by decide +kernel
theorem dX6_begin_73 : decode cX6_begin 73 = .ok (.aload_n 0, 1) := by decide +kernel
theorem dX6_begin_74 : decode cX6_begin 74 = .ok (.bipush 24, 2) := by decide +kernel
theorem dX6_begin_76 : decode cX6_begin 76 = .ok (.invokevirtual 32, 3) := by decide +kernel
theorem dX6_begin_79 : decode cX6_begin 79 = .ok (.ireturn, 1) := by decide +kernel
set_option maxRecDepth 20000 in
theorem ggX6_editPush_X6_noEdit : GoodIn wsX6_editPush wsX6_noEdit := goodIn_r _ [6, 1, 43, 44, 45, 46, 47, 48, 49, 50, 51] (by decide +kernel) (by decide +kernel)
set_option maxRecDepth 20000 in
theorem gX6_editPush_X6_noEdit : GoodIn wsX6_editPush (wsV RX6 99 RX6 yX6_noEdit wsX6_noEdit) := goodIn_app (goodIn_of _ (by decide +kernel)) ggX6_editPush_X6_noEdit
set_option maxRecDepth 20000 in
theorem ggX6_editPush_X6_in : GoodIn wsX6_editPush wsX6_in := goodIn_r _ [9] (by decide +kernel) (by decide +kernel)
set_option maxRecDepth 20000 in
theorem gX6_editPush_X6_in : GoodIn wsX6_editPush (va_wsS RX6 24 yX6_in wsX6_in) := goodIn_app (goodIn_of _ (by decide +kernel)) ggX6_editPush_X6_in
set_option maxRecDepth 20000 in
theorem ggX6_editPush_X6_rowLength : GoodIn wsX6_editPush wsX6_rowLength := goodIn_r _ [13, 1, 43, 44, 45, 46, 47, 48, 49, 50, 51] (by decide +kernel) (by decide +kernel)
set_option maxRecDepth 20000 in
theorem gX6_editPush_X6_rowLength : GoodIn wsX6_editPush (wsV RX6 32 RX6 yX6_rowLength wsX6_rowLength) := goodIn_app (goodIn_of _ (by decide +kernel)) ggX6_editPush_X6_rowLength
set_option maxRecDepth 20000 in
theorem ggX6_editPush_X6_record : GoodIn wsX6_editPush wsX6_record := goodIn_r _ [17, 18, 19, 1, 43, 44, 45, 46, 47, 48, 49, 50, 51] (by decide +kernel) (by decide +kernel)
set_option maxRecDepth 20000 in
theorem gX6_editPush_X6_record : GoodIn wsX6_editPush (wsV RX6 77 RX6 yX6_record wsX6_record) := goodIn_app (goodIn_of _ (by decide +kernel)) ggX6_editPush_X6_record
set_option maxRecDepth 20000 in
theorem ggX6_editPush_X6_pushes : GoodIn wsX6_editPush wsX6_pushes := goodIn_r _ [23, 1, 10, 11, 12, 5, 13, 24, 25, 26, 27, 28, 29, 30, 31, 32, 33, 34, 35, 36, 37, 38, 39, 40, 41, 42, 43, 44, 45, 46, 47, 48, 49, 50, 51] (by decide +kernel) (by decide +kernel)
set_option maxRecDepth 20000 in
theorem gX6_editPush_X6_pushes : GoodIn wsX6_editPush (wsV RX6 84 RX6 yX6_pushes wsX6_pushes) := goodIn_app (goodIn_of _ (by decide +kernel)) ggX6_editPush_X6_pushes
theorem dX6_editPush_0 : decode cX6_editPush 0 = .ok (.aload_n 0, 1) := by decide +kernel
theorem dX6_editPush_1 : decode cX6_editPush 1 = .ok (.invokevirtual 99, 3) := by decide +kernel
theorem dX6_editPush_4 : decode cX6_editPush 4 = .ok (.ifCond .eq 6, 3) := by decide +kernel
theorem dX6_editPush_7 : decode cX6_editPush 7 = .ok (.bipush (-4), 2) := by decide +kernel
theorem dX6_editPush_9 : decode cX6_editPush 9 = .ok (.ireturn, 1) := by decide +kernel
theorem dX6_editPush_10 : decode cX6_editPush 10 = .ok (.iload_n 1, 1) := by decide +kernel
theorem dX6_editPush_11 : decode cX6_editPush 11 = .ok (.iconst 0, 1) := by decide +kernel
theorem dX6_editPush_12 : decode cX6_editPush 12 = .ok (.sipush 999, 3) := by decide +kernel
theorem dX6_editPush_15 : decode cX6_editPush 15 = .ok (.invokestatic 24, 3) := by decide +kernel
theorem dX6_editPush_18 : decode cX6_editPush 18 = .ok (.ifCond .ne 6, 3) := by decide +kernel
theorem dX6_editPush_21 : decode cX6_editPush 21 = .ok (.bipush (-2), 2) := by decide +kernel
theorem dX6_editPush_23 : decode cX6_editPush 23 = .ok (.ireturn, 1) := by decide +kernel
theorem dX6_editPush_24 : decode cX6_editPush 24 = .ok (.aload_n 0, 1) := by decide +kernel
theorem dX6_editPush_25 : decode cX6_editPush 25 = .ok (.bipush 24, 2) := by decide +kernel
theorem dX6_editPush_27 : decode cX6_editPush 27 = .ok (.invokevirtual 32, 3) := by decide +kernel
theorem dX6_editPush_30 : decode cX6_editPush 30 = .ok (.sipush 300, 3) := by decide +kernel
theorem dX6_editPush_33 : decode cX6_editPush 33 = .ok (.if_icmp .ne 6, 3) := by decide +kernel
theorem dX6_editPush_36 : decode cX6_editPush 36 = .ok (.bipush (-3), 2) := by decide +kernel
theorem dX6_editPush_38 : decode cX6_editPush 38 = .ok (.ireturn, 1) := by decide +kernel
theorem dX6_editPush_39 : decode cX6_editPush 39 = .ok (.aload_n 0, 1) := by decide +kernel
theorem dX6_editPush_40 : decode cX6_editPush 40 = .ok (.invokevirtual 77, 3) := by decide +kernel
theorem dX6_editPush_43 : decode cX6_editPush 43 = .ok (.aload_n 0, 1) := by decide +kernel
theorem dX6_editPush_44 : decode cX6_editPush 44 = .ok (.getfield 7, 3) := by decide +kernel
theorem dX6_editPush_47 : decode cX6_editPush 47 = .ok (.sipush 10172, 3) := by decide +kernel
theorem dX6_editPush_50 : decode cX6_editPush 50 = .ok (.iaload, 1) := by decide +kernel
theorem dX6_editPush_51 : decode cX6_editPush 51 = .ok (.istore_n 2, 1) := by decide +kernel
theorem dX6_editPush_52 : decode cX6_editPush 52 = .ok (.aload_n 0, 1) := by decide +kernel
theorem dX6_editPush_53 : decode cX6_editPush 53 = .ok (.bipush 24, 2) := by decide +kernel
theorem dX6_editPush_55 : decode cX6_editPush 55 = .ok (.iload_n 1, 1) := by decide +kernel
theorem dX6_editPush_56 : decode cX6_editPush 56 = .ok (.invokevirtual 84, 3) := by decide +kernel
theorem dX6_editPush_59 : decode cX6_editPush 59 = .ok (.aload_n 0, 1) := by decide +kernel
theorem dX6_editPush_60 : decode cX6_editPush 60 = .ok (.getfield 7, 3) := by decide +kernel
theorem dX6_editPush_63 : decode cX6_editPush 63 = .ok (.sipush 10172, 3) := by decide +kernel
theorem dX6_editPush_66 : decode cX6_editPush 66 = .ok (.iaload, 1) := by decide +kernel
theorem dX6_editPush_67 : decode cX6_editPush 67 = .ok (.iload_n 2, 1) := by decide +kernel
theorem dX6_editPush_68 : decode cX6_editPush 68 = .ok (.isub, 1) := by decide +kernel
theorem dX6_editPush_69 : decode cX6_editPush 69 = .ok (.ireturn, 1) := by decide +kernel
set_option maxRecDepth 20000 in
theorem ggX6_editSet_X6_noEdit : GoodIn wsX6_editSet wsX6_noEdit := goodIn_r _ [6, 1, 40, 41, 42, 43, 44, 45, 46, 47, 48] (by decide +kernel) (by decide +kernel)
set_option maxRecDepth 20000 in
theorem gX6_editSet_X6_noEdit : GoodIn wsX6_editSet (wsV RX6 99 RX6 yX6_noEdit wsX6_noEdit) := goodIn_app (goodIn_of _ (by decide +kernel)) ggX6_editSet_X6_noEdit
set_option maxRecDepth 20000 in
theorem ggX6_editSet_X6_rowLength : GoodIn wsX6_editSet wsX6_rowLength := goodIn_r _ [10, 1, 40, 41, 42, 43, 44, 45, 46, 47, 48] (by decide +kernel) (by decide +kernel)
set_option maxRecDepth 20000 in
theorem gX6_editSet_X6_rowLength : GoodIn wsX6_editSet (wsV RX6 32 RX6 yX6_rowLength wsX6_rowLength) := goodIn_app (goodIn_of _ (by decide +kernel)) ggX6_editSet_X6_rowLength
set_option maxRecDepth 20000 in
theorem ggX6_editSet_X6_in : GoodIn wsX6_editSet wsX6_in := goodIn_r _ [13] (by decide +kernel) (by decide +kernel)
set_option maxRecDepth 20000 in
theorem gX6_editSet_X6_in : GoodIn wsX6_editSet (va_wsS RX6 24 yX6_in wsX6_in) := goodIn_app (goodIn_of _ (by decide +kernel)) ggX6_editSet_X6_in
set_option maxRecDepth 20000 in
theorem ggX6_editSet_X6_record : GoodIn wsX6_editSet wsX6_record := goodIn_r _ [17, 18, 19, 1, 40, 41, 42, 43, 44, 45, 46, 47, 48] (by decide +kernel) (by decide +kernel)
set_option maxRecDepth 20000 in
theorem gX6_editSet_X6_record : GoodIn wsX6_editSet (wsV RX6 77 RX6 yX6_record wsX6_record) := goodIn_app (goodIn_of _ (by decide +kernel)) ggX6_editSet_X6_record
set_option maxRecDepth 20000 in
theorem ggX6_editSet_X6_sets : GoodIn wsX6_editSet wsX6_sets := goodIn_r _ [23, 1, 7, 8, 9, 5, 10, 24, 25, 26, 27, 28, 29, 30, 31, 32, 33, 34, 35, 36, 37, 38, 39, 40, 41, 42, 43, 44, 45, 46, 47, 48] (by decide +kernel) (by decide +kernel)
set_option maxRecDepth 20000 in
theorem gX6_editSet_X6_sets : GoodIn wsX6_editSet (wsV RX6 87 RX6 yX6_sets wsX6_sets) := goodIn_app (goodIn_of _ (by decide +kernel)) ggX6_editSet_X6_sets
theorem dX6_editSet_0 : decode cX6_editSet 0 = .ok (.aload_n 0, 1) := by decide +kernel
theorem dX6_editSet_1 : decode cX6_editSet 1 = .ok (.invokevirtual 99, 3) := by decide +kernel
theorem dX6_editSet_4 : decode cX6_editSet 4 = .ok (.ifCond .eq 6, 3) := by decide +kernel
theorem dX6_editSet_7 : decode cX6_editSet 7 = .ok (.bipush (-4), 2) := by decide +kernel
theorem dX6_editSet_9 : decode cX6_editSet 9 = .ok (.ireturn, 1) := by decide +kernel
theorem dX6_editSet_10 : decode cX6_editSet 10 = .ok (.iload_n 1, 1) := by decide +kernel
theorem dX6_editSet_11 : decode cX6_editSet 11 = .ok (.iconst 0, 1) := by decide +kernel
theorem dX6_editSet_12 : decode cX6_editSet 12 = .ok (.aload_n 0, 1) := by decide +kernel
theorem dX6_editSet_13 : decode cX6_editSet 13 = .ok (.bipush 24, 2) := by decide +kernel
theorem dX6_editSet_15 : decode cX6_editSet 15 = .ok (.invokevirtual 32, 3) := by decide +kernel
theorem dX6_editSet_18 : decode cX6_editSet 18 = .ok (.iconst 1, 1) := by decide +kernel
theorem dX6_editSet_19 : decode cX6_editSet 19 = .ok (.isub, 1) := by decide +kernel
theorem dX6_editSet_20 : decode cX6_editSet 20 = .ok (.invokestatic 24, 3) := by decide +kernel
theorem dX6_editSet_23 : decode cX6_editSet 23 = .ok (.ifCond .ne 5, 3) := by decide +kernel
theorem dX6_editSet_26 : decode cX6_editSet 26 = .ok (.iconst (-1), 1) := by decide +kernel
theorem dX6_editSet_27 : decode cX6_editSet 27 = .ok (.ireturn, 1) := by decide +kernel
theorem dX6_editSet_28 : decode cX6_editSet 28 = .ok (.iload_n 2, 1) := by decide +kernel
theorem dX6_editSet_29 : decode cX6_editSet 29 = .ok (.iconst 0, 1) := by decide +kernel
theorem dX6_editSet_30 : decode cX6_editSet 30 = .ok (.sipush 999, 3) := by decide +kernel
theorem dX6_editSet_33 : decode cX6_editSet 33 = .ok (.invokestatic 24, 3) := by decide +kernel
theorem dX6_editSet_36 : decode cX6_editSet 36 = .ok (.ifCond .ne 6, 3) := by decide +kernel
theorem dX6_editSet_39 : decode cX6_editSet 39 = .ok (.bipush (-2), 2) := by decide +kernel
theorem dX6_editSet_41 : decode cX6_editSet 41 = .ok (.ireturn, 1) := by decide +kernel
theorem dX6_editSet_42 : decode cX6_editSet 42 = .ok (.aload_n 0, 1) := by decide +kernel
theorem dX6_editSet_43 : decode cX6_editSet 43 = .ok (.invokevirtual 77, 3) := by decide +kernel
theorem dX6_editSet_46 : decode cX6_editSet 46 = .ok (.aload_n 0, 1) := by decide +kernel
theorem dX6_editSet_47 : decode cX6_editSet 47 = .ok (.getfield 7, 3) := by decide +kernel
theorem dX6_editSet_50 : decode cX6_editSet 50 = .ok (.sipush 10172, 3) := by decide +kernel
theorem dX6_editSet_53 : decode cX6_editSet 53 = .ok (.iaload, 1) := by decide +kernel
theorem dX6_editSet_54 : decode cX6_editSet 54 = .ok (.istore_n 3, 1) := by decide +kernel
theorem dX6_editSet_55 : decode cX6_editSet 55 = .ok (.aload_n 0, 1) := by decide +kernel
theorem dX6_editSet_56 : decode cX6_editSet 56 = .ok (.bipush 24, 2) := by decide +kernel
theorem dX6_editSet_58 : decode cX6_editSet 58 = .ok (.iload_n 1, 1) := by decide +kernel
theorem dX6_editSet_59 : decode cX6_editSet 59 = .ok (.iload_n 2, 1) := by decide +kernel
theorem dX6_editSet_60 : decode cX6_editSet 60 = .ok (.invokevirtual 87, 3) := by decide +kernel
theorem dX6_editSet_63 : decode cX6_editSet 63 = .ok (.aload_n 0, 1) := by decide +kernel
theorem dX6_editSet_64 : decode cX6_editSet 64 = .ok (.getfield 7, 3) := by decide +kernel
theorem dX6_editSet_67 : decode cX6_editSet 67 = .ok (.sipush 10172, 3) := by decide +kernel
theorem dX6_editSet_70 : decode cX6_editSet 70 = .ok (.iaload, 1) := by decide +kernel
theorem dX6_editSet_71 : decode cX6_editSet 71 = .ok (.iload_n 3, 1) := by decide +kernel
theorem dX6_editSet_72 : decode cX6_editSet 72 = .ok (.isub, 1) := by decide +kernel
theorem dX6_editSet_73 : decode cX6_editSet 73 = .ok (.ireturn, 1) := by decide +kernel
set_option maxRecDepth 20000 in
theorem ggX6_editPop_X6_noEdit : GoodIn wsX6_editPop wsX6_noEdit := goodIn_r _ [6, 1, 40, 41, 42, 43, 44, 45, 46, 47, 48] (by decide +kernel) (by decide +kernel)
set_option maxRecDepth 20000 in
theorem gX6_editPop_X6_noEdit : GoodIn wsX6_editPop (wsV RX6 99 RX6 yX6_noEdit wsX6_noEdit) := goodIn_app (goodIn_of _ (by decide +kernel)) ggX6_editPop_X6_noEdit
set_option maxRecDepth 20000 in
theorem ggX6_editPop_X6_rowLength : GoodIn wsX6_editPop wsX6_rowLength := goodIn_r _ [10, 1, 40, 41, 42, 43, 44, 45, 46, 47, 48] (by decide +kernel) (by decide +kernel)
set_option maxRecDepth 20000 in
theorem gX6_editPop_X6_rowLength : GoodIn wsX6_editPop (wsV RX6 32 RX6 yX6_rowLength wsX6_rowLength) := goodIn_app (goodIn_of _ (by decide +kernel)) ggX6_editPop_X6_rowLength
set_option maxRecDepth 20000 in
theorem ggX6_editPop_X6_record : GoodIn wsX6_editPop wsX6_record := goodIn_r _ [14, 15, 16, 1, 40, 41, 42, 43, 44, 45, 46, 47, 48] (by decide +kernel) (by decide +kernel)
set_option maxRecDepth 20000 in
theorem gX6_editPop_X6_record : GoodIn wsX6_editPop (wsV RX6 77 RX6 yX6_record wsX6_record) := goodIn_app (goodIn_of _ (by decide +kernel)) ggX6_editPop_X6_record
set_option maxRecDepth 20000 in
theorem ggX6_editPop_X6_pops : GoodIn wsX6_editPop wsX6_pops := goodIn_r _ [20, 1, 7, 8, 9, 5, 10, 21, 22, 23, 24, 25, 26, 27, 28, 29, 30, 31, 32, 33, 34, 35, 36, 37, 38, 39, 40, 41, 42, 43, 44, 45, 46, 47, 48] (by decide +kernel) (by decide +kernel)
set_option maxRecDepth 20000 in
theorem gX6_editPop_X6_pops : GoodIn wsX6_editPop (wsV RX6 91 RX6 yX6_pops wsX6_pops) := goodIn_app (goodIn_of _ (by decide +kernel)) ggX6_editPop_X6_pops
theorem dX6_editPop_0 : decode cX6_editPop 0 = .ok (.aload_n 0, 1) := by decide +kernel
theorem dX6_editPop_1 : decode cX6_editPop 1 = .ok (.invokevirtual 99, 3) := by decide +kernel
theorem dX6_editPop_4 : decode cX6_editPop 4 = .ok (.ifCond .ne 12, 3) := by decide +kernel
theorem dX6_editPop_7 : decode cX6_editPop 7 = .ok (.aload_n 0, 1) := by decide +kernel
theorem dX6_editPop_8 : decode cX6_editPop 8 = .ok (.bipush 24, 2) := by decide +kernel
theorem dX6_editPop_10 : decode cX6_editPop 10 = .ok (.invokevirtual 32, 3) := by decide +kernel
theorem dX6_editPop_13 : decode cX6_editPop 13 = .ok (.ifCond .ne 6, 3) := by decide +kernel
theorem dX6_editPop_16 : decode cX6_editPop 16 = .ok (.bipush (-4), 2) := by decide +kernel
theorem dX6_editPop_18 : decode cX6_editPop 18 = .ok (.ireturn, 1) := by decide +kernel
theorem dX6_editPop_19 : decode cX6_editPop 19 = .ok (.aload_n 0, 1) := by decide +kernel
theorem dX6_editPop_20 : decode cX6_editPop 20 = .ok (.invokevirtual 77, 3) := by decide +kernel
theorem dX6_editPop_23 : decode cX6_editPop 23 = .ok (.aload_n 0, 1) := by decide +kernel
theorem dX6_editPop_24 : decode cX6_editPop 24 = .ok (.getfield 7, 3) := by decide +kernel
theorem dX6_editPop_27 : decode cX6_editPop 27 = .ok (.sipush 10172, 3) := by decide +kernel
theorem dX6_editPop_30 : decode cX6_editPop 30 = .ok (.iaload, 1) := by decide +kernel
theorem dX6_editPop_31 : decode cX6_editPop 31 = .ok (.istore_n 1, 1) := by decide +kernel
theorem dX6_editPop_32 : decode cX6_editPop 32 = .ok (.aload_n 0, 1) := by decide +kernel
theorem dX6_editPop_33 : decode cX6_editPop 33 = .ok (.bipush 24, 2) := by decide +kernel
theorem dX6_editPop_35 : decode cX6_editPop 35 = .ok (.invokevirtual 91, 3) := by decide +kernel
theorem dX6_editPop_38 : decode cX6_editPop 38 = .ok (.aload_n 0, 1) := by decide +kernel
theorem dX6_editPop_39 : decode cX6_editPop 39 = .ok (.getfield 7, 3) := by decide +kernel
theorem dX6_editPop_42 : decode cX6_editPop 42 = .ok (.sipush 10172, 3) := by decide +kernel
theorem dX6_editPop_45 : decode cX6_editPop 45 = .ok (.iaload, 1) := by decide +kernel
theorem dX6_editPop_46 : decode cX6_editPop 46 = .ok (.iload_n 1, 1) := by decide +kernel
theorem dX6_editPop_47 : decode cX6_editPop 47 = .ok (.isub, 1) := by decide +kernel
theorem dX6_editPop_48 : decode cX6_editPop 48 = .ok (.ireturn, 1) := by decide +kernel
