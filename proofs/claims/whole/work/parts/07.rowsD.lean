set_option maxRecDepth 20000 in
theorem ggX6_finish_X6_noEdit : GoodIn wsX6_finish wsX6_noEdit := goodIn_r _ [6, 1, 25, 26, 27, 28, 29, 30, 31, 32, 33] (by decide +kernel) (by decide +kernel)
set_option maxRecDepth 20000 in
theorem gX6_finish_X6_noEdit : GoodIn wsX6_finish (wsV RX6 99 RX6 yX6_noEdit wsX6_noEdit) := goodIn_app (goodIn_of _ (by decide +kernel)) ggX6_finish_X6_noEdit
set_option maxRecDepth 20000 in
theorem ggX6_finish_X6_isFull : GoodIn wsX6_finish wsX6_isFull := goodIn_r _ [10, 1, 25, 26, 27, 28, 29, 30, 31, 32, 33] (by decide +kernel) (by decide +kernel)
set_option maxRecDepth 20000 in
theorem gX6_finish_X6_isFull : GoodIn wsX6_finish (wsV RX6 73 RX6 yX6_isFull wsX6_isFull) := goodIn_app (goodIn_of _ (by decide +kernel)) ggX6_finish_X6_isFull
set_option maxRecDepth 20000 in
theorem ggX6_finish_X6_record : GoodIn wsX6_finish wsX6_record := goodIn_r _ [14, 15, 16, 1, 25, 26, 27, 28, 29, 30, 31, 32, 33] (by decide +kernel) (by decide +kernel)
set_option maxRecDepth 20000 in
theorem gX6_finish_X6_record : GoodIn wsX6_finish (wsV RX6 77 RX6 yX6_record wsX6_record) := goodIn_app (goodIn_of _ (by decide +kernel)) ggX6_finish_X6_record
set_option maxRecDepth 20000 in
theorem ggX6_finish_X6_comes : GoodIn wsX6_finish wsX6_comes := goodIn_r _ [20, 1, 21, 22, 23, 5, 24, 25, 26, 27, 28, 29, 30, 31, 32, 33] (by decide +kernel) (by decide +kernel)
set_option maxRecDepth 20000 in
theorem gX6_finish_X6_comes : GoodIn wsX6_finish (wsV RX6 80 RX6 yX6_comes wsX6_comes) := goodIn_app (goodIn_of _ (by decide +kernel)) ggX6_finish_X6_comes
theorem dX6_finish_0 : decode cX6_finish 0 = .ok (.aload_n 0, 1) := by decide +kernel
theorem dX6_finish_1 : decode cX6_finish 1 = .ok (.invokevirtual 99, 3) := by decide +kernel
theorem dX6_finish_4 : decode cX6_finish 4 = .ok (.ifCond .eq 6, 3) := by decide +kernel
theorem dX6_finish_7 : decode cX6_finish 7 = .ok (.bipush (-4), 2) := by decide +kernel
theorem dX6_finish_9 : decode cX6_finish 9 = .ok (.ireturn, 1) := by decide +kernel
theorem dX6_finish_10 : decode cX6_finish 10 = .ok (.aload_n 0, 1) := by decide +kernel
theorem dX6_finish_11 : decode cX6_finish 11 = .ok (.invokevirtual 73, 3) := by decide +kernel
theorem dX6_finish_14 : decode cX6_finish 14 = .ok (.ifCond .eq 6, 3) := by decide +kernel
theorem dX6_finish_17 : decode cX6_finish 17 = .ok (.bipush (-3), 2) := by decide +kernel
theorem dX6_finish_19 : decode cX6_finish 19 = .ok (.ireturn, 1) := by decide +kernel
theorem dX6_finish_20 : decode cX6_finish 20 = .ok (.aload_n 0, 1) := by decide +kernel
theorem dX6_finish_21 : decode cX6_finish 21 = .ok (.invokevirtual 77, 3) := by decide +kernel
theorem dX6_finish_24 : decode cX6_finish 24 = .ok (.aload_n 0, 1) := by decide +kernel
theorem dX6_finish_25 : decode cX6_finish 25 = .ok (.getfield 7, 3) := by decide +kernel
theorem dX6_finish_28 : decode cX6_finish 28 = .ok (.sipush 10173, 3) := by decide +kernel
theorem dX6_finish_31 : decode cX6_finish 31 = .ok (.iconst 0, 1) := by decide +kernel
theorem dX6_finish_32 : decode cX6_finish 32 = .ok (.iastore, 1) := by decide +kernel
theorem dX6_finish_33 : decode cX6_finish 33 = .ok (.aload_n 0, 1) := by decide +kernel
theorem dX6_finish_34 : decode cX6_finish 34 = .ok (.bipush 24, 2) := by decide +kernel
theorem dX6_finish_36 : decode cX6_finish 36 = .ok (.iconst 0, 1) := by decide +kernel
theorem dX6_finish_37 : decode cX6_finish 37 = .ok (.iconst 0, 1) := by decide +kernel
theorem dX6_finish_38 : decode cX6_finish 38 = .ok (.iconst 0, 1) := by decide +kernel
theorem dX6_finish_39 : decode cX6_finish 39 = .ok (.invokevirtual 80, 3) := by decide +kernel
theorem dX6_finish_42 : decode cX6_finish 42 = .ok (.ireturn, 1) := by decide +kernel
set_option maxRecDepth 20000 in
theorem ggX6_abandon_X6_noEdit : GoodIn wsX6_abandon wsX6_noEdit := goodIn_r _ [6, 1, 17, 18, 19, 20, 21, 22, 23, 24, 25] (by decide +kernel) (by decide +kernel)
set_option maxRecDepth 20000 in
theorem gX6_abandon_X6_noEdit : GoodIn wsX6_abandon (wsV RX6 99 RX6 yX6_noEdit wsX6_noEdit) := goodIn_app (goodIn_of _ (by decide +kernel)) ggX6_abandon_X6_noEdit
set_option maxRecDepth 20000 in
theorem ggX6_abandon_X6_record : GoodIn wsX6_abandon wsX6_record := goodIn_r _ [10, 11, 12, 1, 17, 18, 19, 20, 21, 22, 23, 24, 25] (by decide +kernel) (by decide +kernel)
set_option maxRecDepth 20000 in
theorem gX6_abandon_X6_record : GoodIn wsX6_abandon (wsV RX6 77 RX6 yX6_record wsX6_record) := goodIn_app (goodIn_of _ (by decide +kernel)) ggX6_abandon_X6_record
set_option maxRecDepth 20000 in
theorem ggX6_abandon_X6_rowLength : GoodIn wsX6_abandon wsX6_rowLength := goodIn_r _ [16, 1, 17, 18, 19, 20, 21, 22, 23, 24, 25] (by decide +kernel) (by decide +kernel)
set_option maxRecDepth 20000 in
theorem gX6_abandon_X6_rowLength : GoodIn wsX6_abandon (wsV RX6 32 RX6 yX6_rowLength wsX6_rowLength) := goodIn_app (goodIn_of _ (by decide +kernel)) ggX6_abandon_X6_rowLength
theorem dX6_abandon_0 : decode cX6_abandon 0 = .ok (.aload_n 0, 1) := by decide +kernel
theorem dX6_abandon_1 : decode cX6_abandon 1 = .ok (.invokevirtual 99, 3) := by decide +kernel
theorem dX6_abandon_4 : decode cX6_abandon 4 = .ok (.ifCond .eq 6, 3) := by decide +kernel
theorem dX6_abandon_7 : decode cX6_abandon 7 = .ok (.bipush (-4), 2) := by decide +kernel
theorem dX6_abandon_9 : decode cX6_abandon 9 = .ok (.ireturn, 1) := by decide +kernel
theorem dX6_abandon_10 : decode cX6_abandon 10 = .ok (.aload_n 0, 1) := by decide +kernel
theorem dX6_abandon_11 : decode cX6_abandon 11 = .ok (.invokevirtual 77, 3) := by decide +kernel
theorem dX6_abandon_14 : decode cX6_abandon 14 = .ok (.aload_n 0, 1) := by decide +kernel
theorem dX6_abandon_15 : decode cX6_abandon 15 = .ok (.getfield 7, 3) := by decide +kernel
theorem dX6_abandon_18 : decode cX6_abandon 18 = .ok (.sipush 10173, 3) := by decide +kernel
theorem dX6_abandon_21 : decode cX6_abandon 21 = .ok (.iconst 0, 1) := by decide +kernel
theorem dX6_abandon_22 : decode cX6_abandon 22 = .ok (.iastore, 1) := by decide +kernel
theorem dX6_abandon_23 : decode cX6_abandon 23 = .ok (.aload_n 0, 1) := by decide +kernel
theorem dX6_abandon_24 : decode cX6_abandon 24 = .ok (.bipush 24, 2) := by decide +kernel
theorem dX6_abandon_26 : decode cX6_abandon 26 = .ok (.invokevirtual 32, 3) := by decide +kernel
theorem dX6_abandon_29 : decode cX6_abandon 29 = .ok (.ireturn, 1) := by decide +kernel
theorem dX6_type_0 : decode cX6_type 0 = .ok (.aload_n 0, 1) := by decide +kernel
theorem dX6_type_1 : decode cX6_type 1 = .ok (.getfield 102, 3) := by decide +kernel
theorem dX6_type_4 : decode cX6_type 4 = .ok (.bipush 60, 2) := by decide +kernel
theorem dX6_type_6 : decode cX6_type 6 = .ok (.if_icmp .ne 6, 3) := by decide +kernel
theorem dX6_type_9 : decode cX6_type 9 = .ok (.bipush (-3), 2) := by decide +kernel
theorem dX6_type_11 : decode cX6_type 11 = .ok (.ireturn, 1) := by decide +kernel
theorem dX6_type_12 : decode cX6_type 12 = .ok (.aload_n 0, 1) := by decide +kernel
theorem dX6_type_13 : decode cX6_type 13 = .ok (.getfield 20, 3) := by decide +kernel
theorem dX6_type_16 : decode cX6_type 16 = .ok (.aload_n 0, 1) := by decide +kernel
theorem dX6_type_17 : decode cX6_type 17 = .ok (.getfield 102, 3) := by decide +kernel
theorem dX6_type_20 : decode cX6_type 20 = .ok (.iload_n 1, 1) := by decide +kernel
theorem dX6_type_21 : decode cX6_type 21 = .ok (.castore, 1) := by decide +kernel
theorem dX6_type_22 : decode cX6_type 22 = .ok (.aload_n 0, 1) := by decide +kernel
theorem dX6_type_23 : decode cX6_type 23 = .ok (.dup, 1) := by decide +kernel
theorem dX6_type_24 : decode cX6_type 24 = .ok (.getfield 102, 3) := by decide +kernel
theorem dX6_type_27 : decode cX6_type 27 = .ok (.iconst 1, 1) := by decide +kernel
theorem dX6_type_28 : decode cX6_type 28 = .ok (.iadd, 1) := by decide +kernel
theorem dX6_type_29 : decode cX6_type 29 = .ok (.putfield 102, 3) := by decide +kernel
theorem dX6_type_32 : decode cX6_type 32 = .ok (.aload_n 0, 1) := by decide +kernel
theorem dX6_type_33 : decode cX6_type 33 = .ok (.getfield 102, 3) := by decide +kernel
theorem dX6_type_36 : decode cX6_type 36 = .ok (.ireturn, 1) := by decide +kernel
theorem dX6_clearText_0 : decode cX6_clearText 0 = .ok (.aload_n 0, 1) := by decide +kernel
theorem dX6_clearText_1 : decode cX6_clearText 1 = .ok (.getfield 102, 3) := by decide +kernel
theorem dX6_clearText_4 : decode cX6_clearText 4 = .ok (.istore_n 1, 1) := by decide +kernel
theorem dX6_clearText_5 : decode cX6_clearText 5 = .ok (.aload_n 0, 1) := by decide +kernel
theorem dX6_clearText_6 : decode cX6_clearText 6 = .ok (.iconst 0, 1) := by decide +kernel
theorem dX6_clearText_7 : decode cX6_clearText 7 = .ok (.putfield 102, 3) := by decide +kernel
theorem dX6_clearText_10 : decode cX6_clearText 10 = .ok (.iload_n 1, 1) := by decide +kernel
theorem dX6_clearText_11 : decode cX6_clearText 11 = .ok (.ireturn, 1) := by decide +kernel
set_option maxRecDepth 20000 in
theorem ggX6_isDigit_X6_in : GoodIn wsX6_isDigit wsX6_in := goodIn_r _ [7] (by decide +kernel) (by decide +kernel)
set_option maxRecDepth 20000 in
theorem gX6_isDigit_X6_in : GoodIn wsX6_isDigit (va_wsS RX6 24 yX6_in wsX6_in) := goodIn_app (goodIn_of _ (by decide +kernel)) ggX6_isDigit_X6_in
theorem dX6_isDigit_0 : decode cX6_isDigit 0 = .ok (.aload_n 0, 1) := by decide +kernel
theorem dX6_isDigit_1 : decode cX6_isDigit 1 = .ok (.getfield 105, 3) := by decide +kernel
theorem dX6_isDigit_4 : decode cX6_isDigit 4 = .ok (.aload_n 0, 1) := by decide +kernel
theorem dX6_isDigit_5 : decode cX6_isDigit 5 = .ok (.getfield 102, 3) := by decide +kernel
theorem dX6_isDigit_8 : decode cX6_isDigit 8 = .ok (.if_icmp .ge 26, 3) := by decide +kernel
theorem dX6_isDigit_11 : decode cX6_isDigit 11 = .ok (.aload_n 0, 1) := by decide +kernel
theorem dX6_isDigit_12 : decode cX6_isDigit 12 = .ok (.getfield 20, 3) := by decide +kernel
theorem dX6_isDigit_15 : decode cX6_isDigit 15 = .ok (.aload_n 0, 1) := by decide +kernel
theorem dX6_isDigit_16 : decode cX6_isDigit 16 = .ok (.getfield 105, 3) := by decide +kernel
theorem dX6_isDigit_19 : decode cX6_isDigit 19 = .ok (.caload, 1) := by decide +kernel
theorem dX6_isDigit_20 : decode cX6_isDigit 20 = .ok (.bipush 48, 2) := by decide +kernel
theorem dX6_isDigit_22 : decode cX6_isDigit 22 = .ok (.bipush 57, 2) := by decide +kernel
theorem dX6_isDigit_24 : decode cX6_isDigit 24 = .ok (.invokestatic 24, 3) := by decide +kernel
theorem dX6_isDigit_27 : decode cX6_isDigit 27 = .ok (.ifCond .eq 7, 3) := by decide +kernel
theorem dX6_isDigit_30 : decode cX6_isDigit 30 = .ok (.iconst 1, 1) := by decide +kernel
theorem dX6_isDigit_31 : decode cX6_isDigit 31 = .ok (.goto 4, 3) := by decide +kernel
theorem dX6_isDigit_34 : decode cX6_isDigit 34 = .ok (.iconst 0, 1) := by decide +kernel
theorem dX6_isDigit_35 : decode cX6_isDigit 35 = .ok (.ireturn, 1) := by decide +kernel
set_option maxRecDepth 20000 in
theorem ggX6_takesNumber_X6_isDigit : GoodIn wsX6_takesNumber wsX6_isDigit := goodIn_r _ [8, 2, 9, 1, 10, 11, 7, 12, 13, 14, 15, 16, 17, 18, 19, 20, 21] (by decide +kernel) (by decide +kernel)
set_option maxRecDepth 20000 in
theorem gX6_takesNumber_X6_isDigit : GoodIn wsX6_takesNumber (wsV RX6 108 RX6 yX6_isDigit wsX6_isDigit) := goodIn_app (goodIn_of _ (by decide +kernel)) ggX6_takesNumber_X6_isDigit
theorem dX6_takesNumber_0 : decode cX6_takesNumber 0 = .ok (.aload_n 0, 1) := by decide +kernel
theorem dX6_takesNumber_1 : decode cX6_takesNumber 1 = .ok (.invokevirtual 108, 3) := by decide +kernel
theorem dX6_takesNumber_4 : decode cX6_takesNumber 4 = .ok (.ifCond .ne 5, 3) := by decide +kernel
theorem dX6_takesNumber_7 : decode cX6_takesNumber 7 = .ok (.iconst 0, 1) := by decide +kernel
theorem dX6_takesNumber_8 : decode cX6_takesNumber 8 = .ok (.ireturn, 1) := by decide +kernel
theorem dX6_takesNumber_9 : decode cX6_takesNumber 9 = .ok (.aload_n 0, 1) := by decide +kernel
theorem dX6_takesNumber_10 : decode cX6_takesNumber 10 = .ok (.aload_n 0, 1) := by decide +kernel
theorem dX6_takesNumber_11 : decode cX6_takesNumber 11 = .ok (.getfield 20, 3) := by decide +kernel
theorem dX6_takesNumber_14 : decode cX6_takesNumber 14 = .ok (.aload_n 0, 1) := by decide +kernel
theorem dX6_takesNumber_15 : decode cX6_takesNumber 15 = .ok (.getfield 105, 3) := by decide +kernel
theorem dX6_takesNumber_18 : decode cX6_takesNumber 18 = .ok (.caload, 1) := by decide +kernel
theorem dX6_takesNumber_19 : decode cX6_takesNumber 19 = .ok (.bipush 48, 2) := by decide +kernel
theorem dX6_takesNumber_21 : decode cX6_takesNumber 21 = .ok (.isub, 1) := by decide +kernel
theorem dX6_takesNumber_22 : decode cX6_takesNumber 22 = .ok (.putfield 111, 3) := by decide +kernel
theorem dX6_takesNumber_25 : decode cX6_takesNumber 25 = .ok (.aload_n 0, 1) := by decide +kernel
theorem dX6_takesNumber_26 : decode cX6_takesNumber 26 = .ok (.dup, 1) := by decide +kernel
theorem dX6_takesNumber_27 : decode cX6_takesNumber 27 = .ok (.getfield 105, 3) := by decide +kernel
theorem dX6_takesNumber_30 : decode cX6_takesNumber 30 = .ok (.iconst 1, 1) := by decide +kernel
theorem dX6_takesNumber_31 : decode cX6_takesNumber 31 = .ok (.iadd, 1) := by decide +kernel
theorem dX6_takesNumber_32 : decode cX6_takesNumber 32 = .ok (.putfield 105, 3) := by decide +kernel
theorem dX6_takesNumber_35 : decode cX6_takesNumber 35 = .ok (.iconst 0, 1) := by decide +kernel
theorem dX6_takesNumber_36 : decode cX6_takesNumber 36 = .ok (.istore_n 1, 1) := by decide +kernel
theorem dX6_takesNumber_37 : decode cX6_takesNumber 37 = .ok (.iload_n 1, 1) := by decide +kernel
theorem dX6_takesNumber_38 : decode cX6_takesNumber 38 = .ok (.iconst 2, 1) := by decide +kernel
theorem dX6_takesNumber_39 : decode cX6_takesNumber 39 = .ok (.if_icmp .ge 57, 3) := by decide +kernel
theorem dX6_takesNumber_42 : decode cX6_takesNumber 42 = .ok (.aload_n 0, 1) := by decide +kernel
theorem dX6_takesNumber_43 : decode cX6_takesNumber 43 = .ok (.getfield 111, 3) := by decide +kernel
theorem dX6_takesNumber_46 : decode cX6_takesNumber 46 = .ok (.ifCond .le 50, 3) := by decide +kernel
theorem dX6_takesNumber_49 : decode cX6_takesNumber 49 = .ok (.aload_n 0, 1) := by decide +kernel
theorem dX6_takesNumber_50 : decode cX6_takesNumber 50 = .ok (.invokevirtual 108, 3) := by decide +kernel
theorem dX6_takesNumber_53 : decode cX6_takesNumber 53 = .ok (.ifCond .eq 43, 3) := by decide +kernel
theorem dX6_takesNumber_56 : decode cX6_takesNumber 56 = .ok (.aload_n 0, 1) := by decide +kernel
theorem dX6_takesNumber_57 : decode cX6_takesNumber 57 = .ok (.bipush 10, 2) := by decide +kernel
theorem dX6_takesNumber_59 : decode cX6_takesNumber 59 = .ok (.aload_n 0, 1) := by decide +kernel
theorem dX6_takesNumber_60 : decode cX6_takesNumber 60 = .ok (.getfield 111, 3) := by decide +kernel
theorem dX6_takesNumber_63 : decode cX6_takesNumber 63 = .ok (.imul, 1) := by decide +kernel
theorem dX6_takesNumber_64 : decode cX6_takesNumber 64 = .ok (.aload_n 0, 1) := by decide +kernel
theorem dX6_takesNumber_65 : decode cX6_takesNumber 65 = .ok (.getfield 20, 3) := by decide +kernel
theorem dX6_takesNumber_68 : decode cX6_takesNumber 68 = .ok (.aload_n 0, 1) := by decide +kernel
theorem dX6_takesNumber_69 : decode cX6_takesNumber 69 = .ok (.getfield 105, 3) := by decide +kernel
theorem dX6_takesNumber_72 : decode cX6_takesNumber 72 = .ok (.caload, 1) := by decide +kernel
theorem dX6_takesNumber_73 : decode cX6_takesNumber 73 = .ok (.iadd, 1) := by decide +kernel
theorem dX6_takesNumber_74 : decode cX6_takesNumber 74 = .ok (.bipush 48, 2) := by decide +kernel
theorem dX6_takesNumber_76 : decode cX6_takesNumber 76 = .ok (.isub, 1) := by decide +kernel
theorem dX6_takesNumber_77 : decode cX6_takesNumber 77 = .ok (.putfield 111, 3) := by decide +kernel
theorem dX6_takesNumber_80 : decode cX6_takesNumber 80 = .ok (.aload_n 0, 1) := by decide +kernel
theorem dX6_takesNumber_81 : decode cX6_takesNumber 81 = .ok (.dup, 1) := by decide +kernel
theorem dX6_takesNumber_82 : decode cX6_takesNumber 82 = .ok (.getfield 105, 3) := by decide +kernel
theorem dX6_takesNumber_85 : decode cX6_takesNumber 85 = .ok (.iconst 1, 1) := by decide +kernel
theorem dX6_takesNumber_86 : decode cX6_takesNumber 86 = .ok (.iadd, 1) := by decide +kernel
theorem dX6_takesNumber_87 : decode cX6_takesNumber 87 = .ok (.putfield 105, 3) := by decide +kernel
theorem dX6_takesNumber_90 : decode cX6_takesNumber 90 = .ok (.iinc 1 1, 3) := by decide +kernel
theorem dX6_takesNumber_93 : decode cX6_takesNumber 93 = .ok (.goto (-56), 3) := by decide +kernel
theorem dX6_takesNumber_96 : decode cX6_takesNumber 96 = .ok (.iconst 1, 1) := by decide +kernel
theorem dX6_takesNumber_97 : decode cX6_takesNumber 97 = .ok (.ireturn, 1) := by decide +kernel
set_option maxRecDepth 20000 in
theorem ggX6_valuesOfText_X6_takesNumber : GoodIn wsX6_valuesOfText wsX6_takesNumber := goodIn_r _ [8, 3, 1, 9, 10, 11, 12, 7, 13, 2, 14, 15, 16, 17, 18, 19, 20, 21, 22, 23, 24, 25] (by decide +kernel) (by decide +kernel)
set_option maxRecDepth 20000 in
theorem gX6_valuesOfText_X6_takesNumber : GoodIn wsX6_valuesOfText (wsV RX6 114 RX6 yX6_takesNumber wsX6_takesNumber) := goodIn_app (goodIn_of _ (by decide +kernel)) ggX6_valuesOfText_X6_takesNumber
theorem dX6_valuesOfText_0 : decode cX6_valuesOfText 0 = .ok (.aload_n 0, 1) := by decide +kernel
theorem dX6_valuesOfText_1 : decode cX6_valuesOfText 1 = .ok (.iconst 0, 1) := by decide +kernel
theorem dX6_valuesOfText_2 : decode cX6_valuesOfText 2 = .ok (.putfield 105, 3) := by decide +kernel
theorem dX6_valuesOfText_5 : decode cX6_valuesOfText 5 = .ok (.iconst 0, 1) := by decide +kernel
theorem dX6_valuesOfText_6 : decode cX6_valuesOfText 6 = .ok (.istore_n 1, 1) := by decide +kernel
theorem dX6_valuesOfText_7 : decode cX6_valuesOfText 7 = .ok (.iconst 1, 1) := by decide +kernel
theorem dX6_valuesOfText_8 : decode cX6_valuesOfText 8 = .ok (.istore_n 2, 1) := by decide +kernel
theorem dX6_valuesOfText_9 : decode cX6_valuesOfText 9 = .ok (.iload_n 2, 1) := by decide +kernel
theorem dX6_valuesOfText_10 : decode cX6_valuesOfText 10 = .ok (.ifCond .eq 75, 3) := by decide +kernel
theorem dX6_valuesOfText_13 : decode cX6_valuesOfText 13 = .ok (.aload_n 0, 1) := by decide +kernel
theorem dX6_valuesOfText_14 : decode cX6_valuesOfText 14 = .ok (.invokevirtual 114, 3) := by decide +kernel
theorem dX6_valuesOfText_17 : decode cX6_valuesOfText 17 = .ok (.ifCond .ne 6, 3) := by decide +kernel
theorem dX6_valuesOfText_20 : decode cX6_valuesOfText 20 = .ok (.bipush (-5), 2) := by decide +kernel
theorem dX6_valuesOfText_22 : decode cX6_valuesOfText 22 = .ok (.ireturn, 1) := by decide +kernel
theorem dX6_valuesOfText_23 : decode cX6_valuesOfText 23 = .ok (.iinc 1 1, 3) := by decide +kernel
theorem dX6_valuesOfText_26 : decode cX6_valuesOfText 26 = .ok (.aload_n 0, 1) := by decide +kernel
theorem dX6_valuesOfText_27 : decode cX6_valuesOfText 27 = .ok (.getfield 105, 3) := by decide +kernel
theorem dX6_valuesOfText_30 : decode cX6_valuesOfText 30 = .ok (.aload_n 0, 1) := by decide +kernel
theorem dX6_valuesOfText_31 : decode cX6_valuesOfText 31 = .ok (.getfield 102, 3) := by decide +kernel
theorem dX6_valuesOfText_34 : decode cX6_valuesOfText 34 = .ok (.if_icmp .ge 7, 3) := by decide +kernel
theorem dX6_valuesOfText_37 : decode cX6_valuesOfText 37 = .ok (.iconst 1, 1) := by decide +kernel
theorem dX6_valuesOfText_38 : decode cX6_valuesOfText 38 = .ok (.goto 4, 3) := by decide +kernel
theorem dX6_valuesOfText_41 : decode cX6_valuesOfText 41 = .ok (.iconst 0, 1) := by decide +kernel
theorem dX6_valuesOfText_42 : decode cX6_valuesOfText 42 = .ok (.istore_n 2, 1) := by decide +kernel
theorem dX6_valuesOfText_43 : decode cX6_valuesOfText 43 = .ok (.iload_n 2, 1) := by decide +kernel
theorem dX6_valuesOfText_44 : decode cX6_valuesOfText 44 = .ok (.ifCond .eq 20, 3) := by decide +kernel
theorem dX6_valuesOfText_47 : decode cX6_valuesOfText 47 = .ok (.aload_n 0, 1) := by decide +kernel
theorem dX6_valuesOfText_48 : decode cX6_valuesOfText 48 = .ok (.getfield 20, 3) := by decide +kernel
theorem dX6_valuesOfText_51 : decode cX6_valuesOfText 51 = .ok (.aload_n 0, 1) := by decide +kernel
theorem dX6_valuesOfText_52 : decode cX6_valuesOfText 52 = .ok (.getfield 105, 3) := by decide +kernel
theorem dX6_valuesOfText_55 : decode cX6_valuesOfText 55 = .ok (.caload, 1) := by decide +kernel
theorem dX6_valuesOfText_56 : decode cX6_valuesOfText 56 = .ok (.bipush 44, 2) := by decide +kernel
theorem dX6_valuesOfText_58 : decode cX6_valuesOfText 58 = .ok (.if_icmp .eq 6, 3) := by decide +kernel
theorem dX6_valuesOfText_61 : decode cX6_valuesOfText 61 = .ok (.bipush (-5), 2) := by decide +kernel
theorem dX6_valuesOfText_63 : decode cX6_valuesOfText 63 = .ok (.ireturn, 1) := by decide +kernel
theorem dX6_valuesOfText_64 : decode cX6_valuesOfText 64 = .ok (.aload_n 0, 1) := by decide +kernel
theorem dX6_valuesOfText_65 : decode cX6_valuesOfText 65 = .ok (.dup, 1) := by decide +kernel
theorem dX6_valuesOfText_66 : decode cX6_valuesOfText 66 = .ok (.getfield 105, 3) := by decide +kernel
theorem dX6_valuesOfText_69 : decode cX6_valuesOfText 69 = .ok (.iload_n 2, 1) := by decide +kernel
theorem dX6_valuesOfText_70 : decode cX6_valuesOfText 70 = .ok (.ifCond .eq 7, 3) := by decide +kernel
theorem dX6_valuesOfText_73 : decode cX6_valuesOfText 73 = .ok (.iconst 1, 1) := by decide +kernel
theorem dX6_valuesOfText_74 : decode cX6_valuesOfText 74 = .ok (.goto 4, 3) := by decide +kernel
theorem dX6_valuesOfText_77 : decode cX6_valuesOfText 77 = .ok (.iconst 0, 1) := by decide +kernel
theorem dX6_valuesOfText_78 : decode cX6_valuesOfText 78 = .ok (.iadd, 1) := by decide +kernel
theorem dX6_valuesOfText_79 : decode cX6_valuesOfText 79 = .ok (.putfield 105, 3) := by decide +kernel
theorem dX6_valuesOfText_82 : decode cX6_valuesOfText 82 = .ok (.goto (-73), 3) := by decide +kernel
theorem dX6_valuesOfText_85 : decode cX6_valuesOfText 85 = .ok (.iload_n 1, 1) := by decide +kernel
theorem dX6_valuesOfText_86 : decode cX6_valuesOfText 86 = .ok (.ireturn, 1) := by decide +kernel
set_option maxRecDepth 20000 in
theorem ggX6_editRead_X6_noEdit : GoodIn wsX6_editRead wsX6_noEdit := goodIn_r _ [8, 2, 59, 60, 61, 62, 63, 64, 65, 66, 67] (by decide +kernel) (by decide +kernel)
set_option maxRecDepth 20000 in
theorem gX6_editRead_X6_noEdit : GoodIn wsX6_editRead (wsV RX6 99 RX6 yX6_noEdit wsX6_noEdit) := goodIn_app (goodIn_of _ (by decide +kernel)) ggX6_editRead_X6_noEdit
set_option maxRecDepth 20000 in
theorem ggX6_editRead_X6_valuesOfText : GoodIn wsX6_editRead wsX6_valuesOfText := goodIn_r _ [12, 1, 13, 14, 15, 16, 17, 7, 18, 3, 19, 20, 21, 22, 23, 24, 25, 59, 60, 61, 62, 63, 64, 65, 66, 67] (by decide +kernel) (by decide +kernel)
set_option maxRecDepth 20000 in
theorem gX6_editRead_X6_valuesOfText : GoodIn wsX6_editRead (wsV RX6 117 RX6 yX6_valuesOfText wsX6_valuesOfText) := goodIn_app (goodIn_of _ (by decide +kernel)) ggX6_editRead_X6_valuesOfText
set_option maxRecDepth 20000 in
theorem ggX6_editRead_X6_rowLength : GoodIn wsX6_editRead wsX6_rowLength := goodIn_r _ [29, 2, 59, 60, 61, 62, 63, 64, 65, 66, 67] (by decide +kernel) (by decide +kernel)
set_option maxRecDepth 20000 in
theorem gX6_editRead_X6_rowLength : GoodIn wsX6_editRead (wsV RX6 32 RX6 yX6_rowLength wsX6_rowLength) := goodIn_app (goodIn_of _ (by decide +kernel)) ggX6_editRead_X6_rowLength
set_option maxRecDepth 20000 in
theorem ggX6_editRead_X6_record : GoodIn wsX6_editRead wsX6_record := goodIn_r _ [33, 34, 35, 2, 59, 60, 61, 62, 63, 64, 65, 66, 67] (by decide +kernel) (by decide +kernel)
set_option maxRecDepth 20000 in
theorem gX6_editRead_X6_record : GoodIn wsX6_editRead (wsV RX6 77 RX6 yX6_record wsX6_record) := goodIn_app (goodIn_of _ (by decide +kernel)) ggX6_editRead_X6_record
set_option maxRecDepth 20000 in
theorem ggX6_editRead_X6_takesNumber : GoodIn wsX6_editRead wsX6_takesNumber := goodIn_r _ [18, 14, 1, 3, 19, 20, 21, 7, 22, 13, 23, 24, 25, 59, 60, 61, 62, 63, 64, 65, 66, 67] (by decide +kernel) (by decide +kernel)
set_option maxRecDepth 20000 in
theorem gX6_editRead_X6_takesNumber : GoodIn wsX6_editRead (wsV RX6 114 RX6 yX6_takesNumber wsX6_takesNumber) := goodIn_app (goodIn_of _ (by decide +kernel)) ggX6_editRead_X6_takesNumber
set_option maxRecDepth 20000 in
theorem ggX6_editRead_X6_pushes : GoodIn wsX6_editRead wsX6_pushes := goodIn_r _ [39, 2, 26, 27, 28, 7, 29, 40, 41, 42, 43, 44, 45, 46, 47, 48, 49, 50, 51, 52, 53, 54, 55, 56, 57, 58, 59, 60, 61, 62, 63, 64, 65, 66, 67] (by decide +kernel) (by decide +kernel)
set_option maxRecDepth 20000 in
theorem gX6_editRead_X6_pushes : GoodIn wsX6_editRead (wsV RX6 84 RX6 yX6_pushes wsX6_pushes) := goodIn_app (goodIn_of _ (by decide +kernel)) ggX6_editRead_X6_pushes
theorem dX6_editRead_0 : decode cX6_editRead 0 = .ok (.aload_n 0, 1) := by decide +kernel
theorem dX6_editRead_1 : decode cX6_editRead 1 = .ok (.invokevirtual 99, 3) := by decide +kernel
theorem dX6_editRead_4 : decode cX6_editRead 4 = .ok (.ifCond .eq 6, 3) := by decide +kernel
theorem dX6_editRead_7 : decode cX6_editRead 7 = .ok (.bipush (-4), 2) := by decide +kernel
theorem dX6_editRead_9 : decode cX6_editRead 9 = .ok (.ireturn, 1) := by decide +kernel
theorem dX6_editRead_10 : decode cX6_editRead 10 = .ok (.aload_n 0, 1) := by decide +kernel
theorem dX6_editRead_11 : decode cX6_editRead 11 = .ok (.invokevirtual 117, 3) := by decide +kernel
theorem dX6_editRead_14 : decode cX6_editRead 14 = .ok (.istore_n 1, 1) := by decide +kernel
theorem dX6_editRead_15 : decode cX6_editRead 15 = .ok (.iload_n 1, 1) := by decide +kernel
theorem dX6_editRead_16 : decode cX6_editRead 16 = .ok (.bipush (-5), 2) := by decide +kernel
theorem dX6_editRead_18 : decode cX6_editRead 18 = .ok (.if_icmp .ne 11, 3) := by decide +kernel
theorem dX6_editRead_21 : decode cX6_editRead 21 = .ok (.bipush (-100), 2) := by decide +kernel
theorem dX6_editRead_23 : decode cX6_editRead 23 = .ok (.aload_n 0, 1) := by decide +kernel
theorem dX6_editRead_24 : decode cX6_editRead 24 = .ok (.getfield 105, 3) := by decide +kernel
theorem dX6_editRead_27 : decode cX6_editRead 27 = .ok (.isub, 1) := by decide +kernel
theorem dX6_editRead_28 : decode cX6_editRead 28 = .ok (.ireturn, 1) := by decide +kernel
theorem dX6_editRead_29 : decode cX6_editRead 29 = .ok (.aload_n 0, 1) := by decide +kernel
theorem dX6_editRead_30 : decode cX6_editRead 30 = .ok (.bipush 24, 2) := by decide +kernel
theorem dX6_editRead_32 : decode cX6_editRead 32 = .ok (.invokevirtual 32, 3) := by decide +kernel
theorem dX6_editRead_35 : decode cX6_editRead 35 = .ok (.iload_n 1, 1) := by decide +kernel
theorem dX6_editRead_36 : decode cX6_editRead 36 = .ok (.iadd, 1) := by decide +kernel
theorem dX6_editRead_37 : decode cX6_editRead 37 = .ok (.sipush 300, 3) := by decide +kernel
theorem dX6_editRead_40 : decode cX6_editRead 40 = .ok (.if_icmp .le 6, 3) := by decide +kernel
theorem dX6_editRead_43 : decode cX6_editRead 43 = .ok (.bipush (-3), 2) := by decide +kernel
theorem dX6_editRead_45 : decode cX6_editRead 45 = .ok (.ireturn, 1) := by decide +kernel
theorem dX6_editRead_46 : decode cX6_editRead 46 = .ok (.aload_n 0, 1) := by decide +kernel
theorem dX6_editRead_47 : decode cX6_editRead 47 = .ok (.invokevirtual 77, 3) := by decide +kernel
theorem dX6_editRead_50 : decode cX6_editRead 50 = .ok (.aload_n 0, 1) := by decide +kernel
theorem dX6_editRead_51 : decode cX6_editRead 51 = .ok (.getfield 7, 3) := by decide +kernel
theorem dX6_editRead_54 : decode cX6_editRead 54 = .ok (.sipush 10172, 3) := by decide +kernel
theorem dX6_editRead_57 : decode cX6_editRead 57 = .ok (.iaload, 1) := by decide +kernel
theorem dX6_editRead_58 : decode cX6_editRead 58 = .ok (.istore_n 2, 1) := by decide +kernel
theorem dX6_editRead_59 : decode cX6_editRead 59 = .ok (.aload_n 0, 1) := by decide +kernel
theorem dX6_editRead_60 : decode cX6_editRead 60 = .ok (.iconst 0, 1) := by decide +kernel
theorem dX6_editRead_61 : decode cX6_editRead 61 = .ok (.putfield 105, 3) := by decide +kernel
theorem dX6_editRead_64 : decode cX6_editRead 64 = .ok (.iconst 0, 1) := by decide +kernel
theorem dX6_editRead_65 : decode cX6_editRead 65 = .ok (.istore_n 3, 1) := by decide +kernel
theorem dX6_editRead_66 : decode cX6_editRead 66 = .ok (.iload_n 3, 1) := by decide +kernel
theorem dX6_editRead_67 : decode cX6_editRead 67 = .ok (.iload_n 1, 1) := by decide +kernel
theorem dX6_editRead_68 : decode cX6_editRead 68 = .ok (.if_icmp .ge 34, 3) := by decide +kernel
theorem dX6_editRead_71 : decode cX6_editRead 71 = .ok (.aload_n 0, 1) := by decide +kernel
theorem dX6_editRead_72 : decode cX6_editRead 72 = .ok (.invokevirtual 114, 3) := by decide +kernel
theorem dX6_editRead_75 : decode cX6_editRead 75 = .ok (.pop, 1) := by decide +kernel
theorem dX6_editRead_76 : decode cX6_editRead 76 = .ok (.aload_n 0, 1) := by decide +kernel
theorem dX6_editRead_77 : decode cX6_editRead 77 = .ok (.dup, 1) := by decide +kernel
theorem dX6_editRead_78 : decode cX6_editRead 78 = .ok (.getfield 105, 3) := by decide +kernel
theorem dX6_editRead_81 : decode cX6_editRead 81 = .ok (.iconst 1, 1) := by decide +kernel
theorem dX6_editRead_82 : decode cX6_editRead 82 = .ok (.iadd, 1) := by decide +kernel
theorem dX6_editRead_83 : decode cX6_editRead 83 = .ok (.putfield 105, 3) := by decide +kernel
theorem dX6_editRead_86 : decode cX6_editRead 86 = .ok (.aload_n 0, 1) := by decide +kernel
theorem dX6_editRead_87 : decode cX6_editRead 87 = .ok (.bipush 24, 2) := by decide +kernel
theorem dX6_editRead_89 : decode cX6_editRead 89 = .ok (.aload_n 0, 1) := by decide +kernel
theorem dX6_editRead_90 : decode cX6_editRead 90 = .ok (.getfield 111, 3) := by decide +kernel
theorem dX6_editRead_93 : decode cX6_editRead 93 = .ok (.invokevirtual 84, 3) := by decide +kernel
theorem dX6_editRead_96 : decode cX6_editRead 96 = .ok (.iinc 3 1, 3) := by decide +kernel
theorem dX6_editRead_99 : decode cX6_editRead 99 = .ok (.goto (-33), 3) := by decide +kernel
theorem dX6_editRead_102 : decode cX6_editRead 102 = .ok (.aload_n 0, 1) := by decide +kernel
theorem dX6_editRead_103 : decode cX6_editRead 103 = .ok (.getfield 7, 3) := by decide +kernel
theorem dX6_editRead_106 : decode cX6_editRead 106 = .ok (.sipush 10172, 3) := by decide +kernel
theorem dX6_editRead_109 : decode cX6_editRead 109 = .ok (.iaload, 1) := by decide +kernel
theorem dX6_editRead_110 : decode cX6_editRead 110 = .ok (.iload_n 2, 1) := by decide +kernel
theorem dX6_editRead_111 : decode cX6_editRead 111 = .ok (.isub, 1) := by decide +kernel
theorem dX6_editRead_112 : decode cX6_editRead 112 = .ok (.ireturn, 1) := by decide +kernel
theorem dX6_undo_0 : decode cX6_undo 0 = .ok (.aload_n 0, 1) := by decide +kernel
theorem dX6_undo_1 : decode cX6_undo 1 = .ok (.getfield 39, 3) := by decide +kernel
theorem dX6_undo_4 : decode cX6_undo 4 = .ok (.ifCond .ne 6, 3) := by decide +kernel
theorem dX6_undo_7 : decode cX6_undo 7 = .ok (.bipush (-5), 2) := by decide +kernel
theorem dX6_undo_9 : decode cX6_undo 9 = .ok (.ireturn, 1) := by decide +kernel
theorem dX6_undo_10 : decode cX6_undo 10 = .ok (.aload_n 0, 1) := by decide +kernel
theorem dX6_undo_11 : decode cX6_undo 11 = .ok (.dup, 1) := by decide +kernel
theorem dX6_undo_12 : decode cX6_undo 12 = .ok (.getfield 39, 3) := by decide +kernel
theorem dX6_undo_15 : decode cX6_undo 15 = .ok (.iconst 1, 1) := by decide +kernel
theorem dX6_undo_16 : decode cX6_undo 16 = .ok (.isub, 1) := by decide +kernel
theorem dX6_undo_17 : decode cX6_undo 17 = .ok (.putfield 39, 3) := by decide +kernel
theorem dX6_undo_20 : decode cX6_undo 20 = .ok (.iconst 0, 1) := by decide +kernel
theorem dX6_undo_21 : decode cX6_undo 21 = .ok (.istore_n 1, 1) := by decide +kernel
theorem dX6_undo_22 : decode cX6_undo 22 = .ok (.iload_n 1, 1) := by decide +kernel
theorem dX6_undo_23 : decode cX6_undo 23 = .ok (.sipush 10276, 3) := by decide +kernel
theorem dX6_undo_26 : decode cX6_undo 26 = .ok (.if_icmp .ge 30, 3) := by decide +kernel
theorem dX6_undo_29 : decode cX6_undo 29 = .ok (.aload_n 0, 1) := by decide +kernel
theorem dX6_undo_30 : decode cX6_undo 30 = .ok (.getfield 7, 3) := by decide +kernel
theorem dX6_undo_33 : decode cX6_undo 33 = .ok (.iload_n 1, 1) := by decide +kernel
theorem dX6_undo_34 : decode cX6_undo 34 = .ok (.aload_n 0, 1) := by decide +kernel
theorem dX6_undo_35 : decode cX6_undo 35 = .ok (.getfield 14, 3) := by decide +kernel
theorem dX6_undo_38 : decode cX6_undo 38 = .ok (.sipush 10276, 3) := by decide +kernel
theorem dX6_undo_41 : decode cX6_undo 41 = .ok (.aload_n 0, 1) := by decide +kernel
theorem dX6_undo_42 : decode cX6_undo 42 = .ok (.getfield 39, 3) := by decide +kernel
theorem dX6_undo_45 : decode cX6_undo 45 = .ok (.imul, 1) := by decide +kernel
theorem dX6_undo_46 : decode cX6_undo 46 = .ok (.iload_n 1, 1) := by decide +kernel
theorem dX6_undo_47 : decode cX6_undo 47 = .ok (.iadd, 1) := by decide +kernel
theorem dX6_undo_48 : decode cX6_undo 48 = .ok (.iaload, 1) := by decide +kernel
theorem dX6_undo_49 : decode cX6_undo 49 = .ok (.iastore, 1) := by decide +kernel
theorem dX6_undo_50 : decode cX6_undo 50 = .ok (.iinc 1 1, 3) := by decide +kernel
theorem dX6_undo_53 : decode cX6_undo 53 = .ok (.goto (-31), 3) := by decide +kernel
theorem dX6_undo_56 : decode cX6_undo 56 = .ok (.aload_n 0, 1) := by decide +kernel
theorem dX6_undo_57 : decode cX6_undo 57 = .ok (.getfield 39, 3) := by decide +kernel
theorem dX6_undo_60 : decode cX6_undo 60 = .ok (.ireturn, 1) := by decide +kernel
theorem dX6_keep_0 : decode cX6_keep 0 = .ok (.iconst 0, 1) := by decide +kernel
theorem dX6_keep_1 : decode cX6_keep 1 = .ok (.istore_n 1, 1) := by decide +kernel
theorem dX6_keep_2 : decode cX6_keep 2 = .ok (.iload_n 1, 1) := by decide +kernel
theorem dX6_keep_3 : decode cX6_keep 3 = .ok (.sipush 10276, 3) := by decide +kernel
theorem dX6_keep_6 : decode cX6_keep 6 = .ok (.if_icmp .ge 21, 3) := by decide +kernel
theorem dX6_keep_9 : decode cX6_keep 9 = .ok (.aload_n 0, 1) := by decide +kernel
theorem dX6_keep_10 : decode cX6_keep 10 = .ok (.getfield 17, 3) := by decide +kernel
theorem dX6_keep_13 : decode cX6_keep 13 = .ok (.iload_n 1, 1) := by decide +kernel
theorem dX6_keep_14 : decode cX6_keep 14 = .ok (.aload_n 0, 1) := by decide +kernel
theorem dX6_keep_15 : decode cX6_keep 15 = .ok (.getfield 7, 3) := by decide +kernel
theorem dX6_keep_18 : decode cX6_keep 18 = .ok (.iload_n 1, 1) := by decide +kernel
theorem dX6_keep_19 : decode cX6_keep 19 = .ok (.iaload, 1) := by decide +kernel
theorem dX6_keep_20 : decode cX6_keep 20 = .ok (.iastore, 1) := by decide +kernel
theorem dX6_keep_21 : decode cX6_keep 21 = .ok (.iinc 1 1, 3) := by decide +kernel
theorem dX6_keep_24 : decode cX6_keep 24 = .ok (.goto (-22), 3) := by decide +kernel
theorem dX6_keep_27 : decode cX6_keep 27 = .ok (.aload_n 0, 1) := by decide +kernel
theorem dX6_keep_28 : decode cX6_keep 28 = .ok (.iconst 1, 1) := by decide +kernel
theorem dX6_keep_29 : decode cX6_keep 29 = .ok (.putfield 120, 3) := by decide +kernel
theorem dX6_keep_32 : decode cX6_keep 32 = .ok (.aload_n 0, 1) := by decide +kernel
theorem dX6_keep_33 : decode cX6_keep 33 = .ok (.getfield 7, 3) := by decide +kernel
theorem dX6_keep_36 : decode cX6_keep 36 = .ok (.sipush 10172, 3) := by decide +kernel
theorem dX6_keep_39 : decode cX6_keep 39 = .ok (.iaload, 1) := by decide +kernel
theorem dX6_keep_40 : decode cX6_keep 40 = .ok (.ireturn, 1) := by decide +kernel
set_option maxRecDepth 20000 in
theorem ggX6_restore_X6_record : GoodIn wsX6_restore wsX6_record := goodIn_r _ [8, 9, 10, 2, 11, 12, 13, 14, 15, 16, 17, 18, 19] (by decide +kernel) (by decide +kernel)
set_option maxRecDepth 20000 in
theorem gX6_restore_X6_record : GoodIn wsX6_restore (wsV RX6 77 RX6 yX6_record wsX6_record) := goodIn_app (goodIn_of _ (by decide +kernel)) ggX6_restore_X6_record
theorem dX6_restore_0 : decode cX6_restore 0 = .ok (.aload_n 0, 1) := by decide +kernel
theorem dX6_restore_1 : decode cX6_restore 1 = .ok (.getfield 120, 3) := by decide +kernel
theorem dX6_restore_4 : decode cX6_restore 4 = .ok (.ifCond .ne 6, 3) := by decide +kernel
theorem dX6_restore_7 : decode cX6_restore 7 = .ok (.bipush (-5), 2) := by decide +kernel
theorem dX6_restore_9 : decode cX6_restore 9 = .ok (.ireturn, 1) := by decide +kernel
theorem dX6_restore_10 : decode cX6_restore 10 = .ok (.aload_n 0, 1) := by decide +kernel
theorem dX6_restore_11 : decode cX6_restore 11 = .ok (.invokevirtual 77, 3) := by decide +kernel
theorem dX6_restore_14 : decode cX6_restore 14 = .ok (.iconst 0, 1) := by decide +kernel
theorem dX6_restore_15 : decode cX6_restore 15 = .ok (.istore_n 1, 1) := by decide +kernel
theorem dX6_restore_16 : decode cX6_restore 16 = .ok (.iload_n 1, 1) := by decide +kernel
theorem dX6_restore_17 : decode cX6_restore 17 = .ok (.sipush 10276, 3) := by decide +kernel
theorem dX6_restore_20 : decode cX6_restore 20 = .ok (.if_icmp .ge 21, 3) := by decide +kernel
theorem dX6_restore_23 : decode cX6_restore 23 = .ok (.aload_n 0, 1) := by decide +kernel
theorem dX6_restore_24 : decode cX6_restore 24 = .ok (.getfield 7, 3) := by decide +kernel
theorem dX6_restore_27 : decode cX6_restore 27 = .ok (.iload_n 1, 1) := by decide +kernel
theorem dX6_restore_28 : decode cX6_restore 28 = .ok (.aload_n 0, 1) := by decide +kernel
theorem dX6_restore_29 : decode cX6_restore 29 = .ok (.getfield 17, 3) := by decide +kernel
theorem dX6_restore_32 : decode cX6_restore 32 = .ok (.iload_n 1, 1) := by decide +kernel
theorem dX6_restore_33 : decode cX6_restore 33 = .ok (.iaload, 1) := by decide +kernel
theorem dX6_restore_34 : decode cX6_restore 34 = .ok (.iastore, 1) := by decide +kernel
theorem dX6_restore_35 : decode cX6_restore 35 = .ok (.iinc 1 1, 3) := by decide +kernel
theorem dX6_restore_38 : decode cX6_restore 38 = .ok (.goto (-22), 3) := by decide +kernel
theorem dX6_restore_41 : decode cX6_restore 41 = .ok (.aload_n 0, 1) := by decide +kernel
theorem dX6_restore_42 : decode cX6_restore 42 = .ok (.getfield 7, 3) := by decide +kernel
theorem dX6_restore_45 : decode cX6_restore 45 = .ok (.sipush 10172, 3) := by decide +kernel
theorem dX6_restore_48 : decode cX6_restore 48 = .ok (.iaload, 1) := by decide +kernel
theorem dX6_restore_49 : decode cX6_restore 49 = .ok (.ireturn, 1) := by decide +kernel
set_option maxRecDepth 20000 in
theorem ggX6_get_X6_no : GoodIn wsX6_get wsX6_no := goodIn_r _ [5, 6, 7, 8, 4, 9, 30, 31, 32, 33, 34, 35, 36, 37, 38] (by decide +kernel) (by decide +kernel)
set_option maxRecDepth 20000 in
theorem gX6_get_X6_no : GoodIn wsX6_get (wsV RX6 67 RX6 yX6_no wsX6_no) := goodIn_app (goodIn_of _ (by decide +kernel)) ggX6_get_X6_no
set_option maxRecDepth 20000 in
theorem ggX6_get_X6_length : GoodIn wsX6_get wsX6_length := goodIn_r _ [13, 6, 14, 15, 16, 4, 17, 18, 19, 20, 21, 30, 31, 32, 33, 34, 35, 36, 37, 38] (by decide +kernel) (by decide +kernel)
set_option maxRecDepth 20000 in
theorem gX6_get_X6_length : GoodIn wsX6_get (wsV RX6 70 RX6 yX6_length wsX6_length) := goodIn_app (goodIn_of _ (by decide +kernel)) ggX6_get_X6_length
set_option maxRecDepth 20000 in
theorem ggX6_get_X6_in : GoodIn wsX6_get wsX6_in := goodIn_r _ [9] (by decide +kernel) (by decide +kernel)
set_option maxRecDepth 20000 in
theorem gX6_get_X6_in : GoodIn wsX6_get (va_wsS RX6 24 yX6_in wsX6_in) := goodIn_app (goodIn_of _ (by decide +kernel)) ggX6_get_X6_in
set_option maxRecDepth 20000 in
theorem ggX6_get_X6_value : GoodIn wsX6_get wsX6_value := goodIn_r _ [25, 6, 26, 27, 28, 4, 29, 30, 31, 32, 33, 34, 35, 36, 37, 38] (by decide +kernel) (by decide +kernel)
set_option maxRecDepth 20000 in
theorem gX6_get_X6_value : GoodIn wsX6_get (wsV RX6 124 RX6 yX6_value wsX6_value) := goodIn_app (goodIn_of _ (by decide +kernel)) ggX6_get_X6_value
theorem dX6_get_0 : decode cX6_get 0 = .ok (.aload_n 0, 1) := by decide +kernel
theorem dX6_get_1 : decode cX6_get 1 = .ok (.iload_n 1, 1) := by decide +kernel
theorem dX6_get_2 : decode cX6_get 2 = .ok (.invokevirtual 67, 3) := by decide +kernel
theorem dX6_get_5 : decode cX6_get 5 = .ok (.ifCond .ne 18, 3) := by decide +kernel
theorem dX6_get_8 : decode cX6_get 8 = .ok (.iload_n 2, 1) := by decide +kernel
theorem dX6_get_9 : decode cX6_get 9 = .ok (.iconst 0, 1) := by decide +kernel
theorem dX6_get_10 : decode cX6_get 10 = .ok (.aload_n 0, 1) := by decide +kernel
theorem dX6_get_11 : decode cX6_get 11 = .ok (.iload_n 1, 1) := by decide +kernel
theorem dX6_get_12 : decode cX6_get 12 = .ok (.invokevirtual 70, 3) := by decide +kernel
theorem dX6_get_15 : decode cX6_get 15 = .ok (.iconst 1, 1) := by decide +kernel
theorem dX6_get_16 : decode cX6_get 16 = .ok (.isub, 1) := by decide +kernel
theorem dX6_get_17 : decode cX6_get 17 = .ok (.invokestatic 24, 3) := by decide +kernel
theorem dX6_get_20 : decode cX6_get 20 = .ok (.ifCond .ne 7, 3) := by decide +kernel
theorem dX6_get_23 : decode cX6_get 23 = .ok (.iconst (-1), 1) := by decide +kernel
theorem dX6_get_24 : decode cX6_get 24 = .ok (.goto 9, 3) := by decide +kernel
theorem dX6_get_27 : decode cX6_get 27 = .ok (.aload_n 0, 1) := by decide +kernel
theorem dX6_get_28 : decode cX6_get 28 = .ok (.iload_n 1, 1) := by decide +kernel
theorem dX6_get_29 : decode cX6_get 29 = .ok (.iload_n 2, 1) := by decide +kernel
theorem dX6_get_30 : decode cX6_get 30 = .ok (.invokevirtual 124, 3) := by decide +kernel
theorem dX6_get_33 : decode cX6_get 33 = .ok (.ireturn, 1) := by decide +kernel
set_option maxRecDepth 20000 in
theorem ggX6_sum_X6_length : GoodIn wsX6_sum wsX6_length := goodIn_r _ [5, 6, 7, 8, 9, 4, 10, 11, 12, 13, 14, 23, 24, 25, 26, 27, 28, 29, 30, 31] (by decide +kernel) (by decide +kernel)
set_option maxRecDepth 20000 in
theorem gX6_sum_X6_length : GoodIn wsX6_sum (wsV RX6 70 RX6 yX6_length wsX6_length) := goodIn_app (goodIn_of _ (by decide +kernel)) ggX6_sum_X6_length
set_option maxRecDepth 20000 in
theorem ggX6_sum_X6_value : GoodIn wsX6_sum wsX6_value := goodIn_r _ [18, 6, 19, 20, 21, 4, 22, 23, 24, 25, 26, 27, 28, 29, 30, 31] (by decide +kernel) (by decide +kernel)
set_option maxRecDepth 20000 in
theorem gX6_sum_X6_value : GoodIn wsX6_sum (wsV RX6 124 RX6 yX6_value wsX6_value) := goodIn_app (goodIn_of _ (by decide +kernel)) ggX6_sum_X6_value
theorem dX6_sum_0 : decode cX6_sum 0 = .ok (.iconst 0, 1) := by decide +kernel
theorem dX6_sum_1 : decode cX6_sum 1 = .ok (.istore_n 2, 1) := by decide +kernel
theorem dX6_sum_2 : decode cX6_sum 2 = .ok (.iconst 0, 1) := by decide +kernel
theorem dX6_sum_3 : decode cX6_sum 3 = .ok (.istore_n 3, 1) := by decide +kernel
theorem dX6_sum_4 : decode cX6_sum 4 = .ok (.iload_n 3, 1) := by decide +kernel
theorem dX6_sum_5 : decode cX6_sum 5 = .ok (.aload_n 0, 1) := by decide +kernel
theorem dX6_sum_6 : decode cX6_sum 6 = .ok (.iload_n 1, 1) := by decide +kernel
theorem dX6_sum_7 : decode cX6_sum 7 = .ok (.invokevirtual 70, 3) := by decide +kernel
theorem dX6_sum_10 : decode cX6_sum 10 = .ok (.if_icmp .ge 18, 3) := by decide +kernel
theorem dX6_sum_13 : decode cX6_sum 13 = .ok (.iload_n 2, 1) := by decide +kernel
theorem dX6_sum_14 : decode cX6_sum 14 = .ok (.aload_n 0, 1) := by decide +kernel
theorem dX6_sum_15 : decode cX6_sum 15 = .ok (.iload_n 1, 1) := by decide +kernel
theorem dX6_sum_16 : decode cX6_sum 16 = .ok (.iload_n 3, 1) := by decide +kernel
theorem dX6_sum_17 : decode cX6_sum 17 = .ok (.invokevirtual 124, 3) := by decide +kernel
theorem dX6_sum_20 : decode cX6_sum 20 = .ok (.iadd, 1) := by decide +kernel
theorem dX6_sum_21 : decode cX6_sum 21 = .ok (.istore_n 2, 1) := by decide +kernel
theorem dX6_sum_22 : decode cX6_sum 22 = .ok (.iinc 3 1, 3) := by decide +kernel
theorem dX6_sum_25 : decode cX6_sum 25 = .ok (.goto (-21), 3) := by decide +kernel
theorem dX6_sum_28 : decode cX6_sum 28 = .ok (.iload_n 2, 1) := by decide +kernel
theorem dX6_sum_29 : decode cX6_sum 29 = .ok (.ireturn, 1) := by decide +kernel
set_option maxRecDepth 20000 in
theorem ggX6_greatest_X6_length : GoodIn wsX6_greatest wsX6_length := goodIn_r _ [5, 6, 7, 8, 9, 4, 10, 11, 12, 13, 14, 23, 24, 25, 26, 27, 28, 29, 30, 31] (by decide +kernel) (by decide +kernel)
set_option maxRecDepth 20000 in
theorem gX6_greatest_X6_length : GoodIn wsX6_greatest (wsV RX6 70 RX6 yX6_length wsX6_length) := goodIn_app (goodIn_of _ (by decide +kernel)) ggX6_greatest_X6_length
set_option maxRecDepth 20000 in
theorem ggX6_greatest_X6_value : GoodIn wsX6_greatest wsX6_value := goodIn_r _ [18, 6, 19, 20, 21, 4, 22, 23, 24, 25, 26, 27, 28, 29, 30, 31] (by decide +kernel) (by decide +kernel)
set_option maxRecDepth 20000 in
theorem gX6_greatest_X6_value : GoodIn wsX6_greatest (wsV RX6 124 RX6 yX6_value wsX6_value) := goodIn_app (goodIn_of _ (by decide +kernel)) ggX6_greatest_X6_value
theorem dX6_greatest_0 : decode cX6_greatest 0 = .ok (.bipush (-5), 2) := by decide +kernel
theorem dX6_greatest_2 : decode cX6_greatest 2 = .ok (.istore_n 2, 1) := by decide +kernel
theorem dX6_greatest_3 : decode cX6_greatest 3 = .ok (.iconst 0, 1) := by decide +kernel
theorem dX6_greatest_4 : decode cX6_greatest 4 = .ok (.istore_n 3, 1) := by decide +kernel
theorem dX6_greatest_5 : decode cX6_greatest 5 = .ok (.iload_n 3, 1) := by decide +kernel
theorem dX6_greatest_6 : decode cX6_greatest 6 = .ok (.aload_n 0, 1) := by decide +kernel
theorem dX6_greatest_7 : decode cX6_greatest 7 = .ok (.iload_n 1, 1) := by decide +kernel
theorem dX6_greatest_8 : decode cX6_greatest 8 = .ok (.invokevirtual 70, 3) := by decide +kernel
theorem dX6_greatest_11 : decode cX6_greatest 11 = .ok (.if_icmp .ge 30, 3) := by decide +kernel
theorem dX6_greatest_14 : decode cX6_greatest 14 = .ok (.aload_n 0, 1) := by decide +kernel
theorem dX6_greatest_15 : decode cX6_greatest 15 = .ok (.iload_n 1, 1) := by decide +kernel
theorem dX6_greatest_16 : decode cX6_greatest 16 = .ok (.iload_n 3, 1) := by decide +kernel
theorem dX6_greatest_17 : decode cX6_greatest 17 = .ok (.invokevirtual 124, 3) := by decide +kernel
theorem dX6_greatest_20 : decode cX6_greatest 20 = .ok (.iload_n 2, 1) := by decide +kernel
theorem dX6_greatest_21 : decode cX6_greatest 21 = .ok (.if_icmp .le 12, 3) := by decide +kernel
theorem dX6_greatest_24 : decode cX6_greatest 24 = .ok (.aload_n 0, 1) := by decide +kernel
theorem dX6_greatest_25 : decode cX6_greatest 25 = .ok (.iload_n 1, 1) := by decide +kernel
theorem dX6_greatest_26 : decode cX6_greatest 26 = .ok (.iload_n 3, 1) := by decide +kernel
theorem dX6_greatest_27 : decode cX6_greatest 27 = .ok (.invokevirtual 124, 3) := by decide +kernel
theorem dX6_greatest_30 : decode cX6_greatest 30 = .ok (.goto 4, 3) := by decide +kernel
theorem dX6_greatest_33 : decode cX6_greatest 33 = .ok (.iload_n 2, 1) := by decide +kernel
theorem dX6_greatest_34 : decode cX6_greatest 34 = .ok (.istore_n 2, 1) := by decide +kernel
theorem dX6_greatest_35 : decode cX6_greatest 35 = .ok (.iinc 3 1, 3) := by decide +kernel
theorem dX6_greatest_38 : decode cX6_greatest 38 = .ok (.goto (-33), 3) := by decide +kernel
theorem dX6_greatest_41 : decode cX6_greatest 41 = .ok (.iload_n 2, 1) := by decide +kernel
theorem dX6_greatest_42 : decode cX6_greatest 42 = .ok (.ireturn, 1) := by decide +kernel
set_option maxRecDepth 20000 in
theorem ggX6_vector_X6_no : GoodIn wsX6_vector wsX6_no := goodIn_r _ [5, 6, 7, 8, 4, 9, 53, 54, 55, 56, 57, 58, 59, 60, 61] (by decide +kernel) (by decide +kernel)
set_option maxRecDepth 20000 in
theorem gX6_vector_X6_no : GoodIn wsX6_vector (wsV RX6 67 RX6 yX6_no wsX6_no) := goodIn_app (goodIn_of _ (by decide +kernel)) ggX6_vector_X6_no
set_option maxRecDepth 20000 in
theorem ggX6_vector_X6_rowLength : GoodIn wsX6_vector wsX6_rowLength := goodIn_r _ [13, 6, 53, 54, 55, 56, 57, 58, 59, 60, 61] (by decide +kernel) (by decide +kernel)
set_option maxRecDepth 20000 in
theorem gX6_vector_X6_rowLength : GoodIn wsX6_vector (wsV RX6 32 RX6 yX6_rowLength wsX6_rowLength) := goodIn_app (goodIn_of _ (by decide +kernel)) ggX6_vector_X6_rowLength
set_option maxRecDepth 20000 in
theorem ggX6_vector_X6_leaves : GoodIn wsX6_vector wsX6_leaves := goodIn_r _ [16] (by decide +kernel) (by decide +kernel)
set_option maxRecDepth 20000 in
theorem gX6_vector_X6_leaves : GoodIn wsX6_vector (va_wsS RX6 56 yX6_leaves wsX6_leaves) := goodIn_app (goodIn_of _ (by decide +kernel)) ggX6_vector_X6_leaves
set_option maxRecDepth 20000 in
theorem ggX6_vector_X6_length : GoodIn wsX6_vector wsX6_length := goodIn_r _ [20, 6, 21, 22, 23, 4, 24, 10, 11, 12, 13, 53, 54, 55, 56, 57, 58, 59, 60, 61] (by decide +kernel) (by decide +kernel)
set_option maxRecDepth 20000 in
theorem gX6_vector_X6_length : GoodIn wsX6_vector (wsV RX6 70 RX6 yX6_length wsX6_length) := goodIn_app (goodIn_of _ (by decide +kernel)) ggX6_vector_X6_length
set_option maxRecDepth 20000 in
theorem ggX6_vector_X6_isWindow : GoodIn wsX6_vector wsX6_isWindow := goodIn_r _ [24, 6, 53, 54, 55, 56, 57, 58, 59, 60, 61] (by decide +kernel) (by decide +kernel)
set_option maxRecDepth 20000 in
theorem gX6_vector_X6_isWindow : GoodIn wsX6_vector (wsV RX6 28 RX6 yX6_isWindow wsX6_isWindow) := goodIn_app (goodIn_of _ (by decide +kernel)) ggX6_vector_X6_isWindow
set_option maxRecDepth 20000 in
theorem ggX6_vector_X6_first : GoodIn wsX6_vector wsX6_first := goodIn_r _ [28, 6, 53, 54, 55, 56, 57, 58, 59, 60, 61] (by decide +kernel) (by decide +kernel)
set_option maxRecDepth 20000 in
theorem gX6_vector_X6_first : GoodIn wsX6_vector (wsV RX6 36 RX6 yX6_first wsX6_first) := goodIn_app (goodIn_of _ (by decide +kernel)) ggX6_vector_X6_first
set_option maxRecDepth 20000 in
theorem ggX6_vector_X6_allBlocks : GoodIn wsX6_vector wsX6_allBlocks := goodIn_r _ [31, 32, 33, 4, 34, 35, 36, 37, 38, 39, 40] (by decide +kernel) (by decide +kernel)
set_option maxRecDepth 20000 in
theorem gX6_vector_X6_allBlocks : GoodIn wsX6_vector (va_wsS RX6 127 yX6_allBlocks wsX6_allBlocks) := goodIn_app (goodIn_of _ (by decide +kernel)) ggX6_vector_X6_allBlocks
set_option maxRecDepth 20000 in
theorem ggX6_vector_X6_rootLevel : GoodIn wsX6_vector wsX6_rootLevel := goodIn_r _ [37, 38, 39, 4, 40] (by decide +kernel) (by decide +kernel)
set_option maxRecDepth 20000 in
theorem gX6_vector_X6_rootLevel : GoodIn wsX6_vector (va_wsS RX6 43 yX6_rootLevel wsX6_rootLevel) := goodIn_app (goodIn_of _ (by decide +kernel)) ggX6_vector_X6_rootLevel
set_option maxRecDepth 20000 in
theorem ggX6_vector_X6_sum : GoodIn wsX6_vector wsX6_sum := goodIn_r _ [44, 17, 18, 19, 4, 20, 6, 21, 22, 23, 24, 10, 11, 12, 13, 45, 46, 47, 48, 25, 26, 27, 28, 53, 54, 55, 56, 57, 58, 59, 60, 61] (by decide +kernel) (by decide +kernel)
set_option maxRecDepth 20000 in
theorem gX6_vector_X6_sum : GoodIn wsX6_vector (wsV RX6 130 RX6 yX6_sum wsX6_sum) := goodIn_app (goodIn_of _ (by decide +kernel)) ggX6_vector_X6_sum
set_option maxRecDepth 20000 in
theorem ggX6_vector_X6_greatest : GoodIn wsX6_vector wsX6_greatest := goodIn_r _ [52, 17, 18, 19, 4, 20, 6, 21, 22, 23, 24, 10, 11, 12, 13, 45, 46, 47, 48, 25, 26, 27, 28, 53, 54, 55, 56, 57, 58, 59, 60, 61] (by decide +kernel) (by decide +kernel)
set_option maxRecDepth 20000 in
theorem gX6_vector_X6_greatest : GoodIn wsX6_vector (wsV RX6 133 RX6 yX6_greatest wsX6_greatest) := goodIn_app (goodIn_of _ (by decide +kernel)) ggX6_vector_X6_greatest
theorem dX6_vector_0 : decode cX6_vector 0 = .ok (.aload_n 0, 1) := by decide +kernel
theorem dX6_vector_1 : decode cX6_vector 1 = .ok (.iload_n 1, 1) := by decide +kernel
theorem dX6_vector_2 : decode cX6_vector 2 = .ok (.invokevirtual 67, 3) := by decide +kernel
theorem dX6_vector_5 : decode cX6_vector 5 = .ok (.ifCond .eq 5, 3) := by decide +kernel
theorem dX6_vector_8 : decode cX6_vector 8 = .ok (.iconst (-1), 1) := by decide +kernel
theorem dX6_vector_9 : decode cX6_vector 9 = .ok (.ireturn, 1) := by decide +kernel
theorem dX6_vector_10 : decode cX6_vector 10 = .ok (.aload_n 0, 1) := by decide +kernel
theorem dX6_vector_11 : decode cX6_vector 11 = .ok (.iload_n 1, 1) := by decide +kernel
theorem dX6_vector_12 : decode cX6_vector 12 = .ok (.invokevirtual 32, 3) := by decide +kernel
theorem dX6_vector_15 : decode cX6_vector 15 = .ok (.invokestatic 56, 3) := by decide +kernel
theorem dX6_vector_18 : decode cX6_vector 18 = .ok (.istore_n 3, 1) := by decide +kernel
theorem dX6_vector_19 : decode cX6_vector 19 = .ok (.iload_n 2, 1) := by decide +kernel
theorem dX6_vector_20 : decode cX6_vector 20 = .ok (.tableswitch 131 0 9 #[56, 62, 76, 82, 88, 90, 95, 109, 119, 125], 56) := by decide +kernel
theorem dX6_vector_76 : decode cX6_vector 76 = .ok (.aload_n 0, 1) := by decide +kernel
theorem dX6_vector_77 : decode cX6_vector 77 = .ok (.iload_n 1, 1) := by decide +kernel
theorem dX6_vector_78 : decode cX6_vector 78 = .ok (.invokevirtual 70, 3) := by decide +kernel
theorem dX6_vector_81 : decode cX6_vector 81 = .ok (.ireturn, 1) := by decide +kernel
theorem dX6_vector_82 : decode cX6_vector 82 = .ok (.aload_n 0, 1) := by decide +kernel
theorem dX6_vector_83 : decode cX6_vector 83 = .ok (.iload_n 1, 1) := by decide +kernel
theorem dX6_vector_84 : decode cX6_vector 84 = .ok (.invokevirtual 28, 3) := by decide +kernel
theorem dX6_vector_87 : decode cX6_vector 87 = .ok (.ifCond .eq 7, 3) := by decide +kernel
theorem dX6_vector_90 : decode cX6_vector 90 = .ok (.iconst 1, 1) := by decide +kernel
theorem dX6_vector_91 : decode cX6_vector 91 = .ok (.goto 4, 3) := by decide +kernel
theorem dX6_vector_94 : decode cX6_vector 94 = .ok (.iconst 0, 1) := by decide +kernel
theorem dX6_vector_95 : decode cX6_vector 95 = .ok (.ireturn, 1) := by decide +kernel
theorem dX6_vector_96 : decode cX6_vector 96 = .ok (.aload_n 0, 1) := by decide +kernel
theorem dX6_vector_97 : decode cX6_vector 97 = .ok (.iload_n 1, 1) := by decide +kernel
theorem dX6_vector_98 : decode cX6_vector 98 = .ok (.invokevirtual 36, 3) := by decide +kernel
theorem dX6_vector_101 : decode cX6_vector 101 = .ok (.ireturn, 1) := by decide +kernel
theorem dX6_vector_102 : decode cX6_vector 102 = .ok (.aload_n 0, 1) := by decide +kernel
theorem dX6_vector_103 : decode cX6_vector 103 = .ok (.iload_n 1, 1) := by decide +kernel
theorem dX6_vector_104 : decode cX6_vector 104 = .ok (.invokevirtual 32, 3) := by decide +kernel
theorem dX6_vector_107 : decode cX6_vector 107 = .ok (.ireturn, 1) := by decide +kernel
theorem dX6_vector_108 : decode cX6_vector 108 = .ok (.iload_n 3, 1) := by decide +kernel
theorem dX6_vector_109 : decode cX6_vector 109 = .ok (.ireturn, 1) := by decide +kernel
theorem dX6_vector_110 : decode cX6_vector 110 = .ok (.iload_n 3, 1) := by decide +kernel
theorem dX6_vector_111 : decode cX6_vector 111 = .ok (.invokestatic 127, 3) := by decide +kernel
theorem dX6_vector_114 : decode cX6_vector 114 = .ok (.ireturn, 1) := by decide +kernel
theorem dX6_vector_115 : decode cX6_vector 115 = .ok (.iload_n 3, 1) := by decide +kernel
theorem dX6_vector_116 : decode cX6_vector 116 = .ok (.ifCond .ne 8, 3) := by decide +kernel
theorem dX6_vector_119 : decode cX6_vector 119 = .ok (.bipush (-5), 2) := by decide +kernel
theorem dX6_vector_121 : decode cX6_vector 121 = .ok (.goto 7, 3) := by decide +kernel
theorem dX6_vector_124 : decode cX6_vector 124 = .ok (.iload_n 3, 1) := by decide +kernel
theorem dX6_vector_125 : decode cX6_vector 125 = .ok (.invokestatic 43, 3) := by decide +kernel
theorem dX6_vector_128 : decode cX6_vector 128 = .ok (.ireturn, 1) := by decide +kernel
theorem dX6_vector_129 : decode cX6_vector 129 = .ok (.aload_n 0, 1) := by decide +kernel
theorem dX6_vector_130 : decode cX6_vector 130 = .ok (.iload_n 1, 1) := by decide +kernel
theorem dX6_vector_131 : decode cX6_vector 131 = .ok (.invokevirtual 32, 3) := by decide +kernel
theorem dX6_vector_134 : decode cX6_vector 134 = .ok (.iconst 4, 1) := by decide +kernel
theorem dX6_vector_135 : decode cX6_vector 135 = .ok (.iload_n 3, 1) := by decide +kernel
theorem dX6_vector_136 : decode cX6_vector 136 = .ok (.imul, 1) := by decide +kernel
theorem dX6_vector_137 : decode cX6_vector 137 = .ok (.isub, 1) := by decide +kernel
theorem dX6_vector_138 : decode cX6_vector 138 = .ok (.ireturn, 1) := by decide +kernel
theorem dX6_vector_139 : decode cX6_vector 139 = .ok (.aload_n 0, 1) := by decide +kernel
theorem dX6_vector_140 : decode cX6_vector 140 = .ok (.iload_n 1, 1) := by decide +kernel
theorem dX6_vector_141 : decode cX6_vector 141 = .ok (.invokevirtual 130, 3) := by decide +kernel
theorem dX6_vector_144 : decode cX6_vector 144 = .ok (.ireturn, 1) := by decide +kernel
theorem dX6_vector_145 : decode cX6_vector 145 = .ok (.aload_n 0, 1) := by decide +kernel
theorem dX6_vector_146 : decode cX6_vector 146 = .ok (.iload_n 1, 1) := by decide +kernel
theorem dX6_vector_147 : decode cX6_vector 147 = .ok (.invokevirtual 133, 3) := by decide +kernel
theorem dX6_vector_150 : decode cX6_vector 150 = .ok (.ireturn, 1) := by decide +kernel
theorem dX6_vector_151 : decode cX6_vector 151 = .ok (.bipush (-2), 2) := by decide +kernel
theorem dX6_vector_153 : decode cX6_vector 153 = .ok (.ireturn, 1) := by decide +kernel
set_option maxRecDepth 20000 in
theorem ggX6_block_X6_no : GoodIn wsX6_block wsX6_no := goodIn_r _ [5, 6, 7, 8, 4, 9, 33, 34, 35, 36, 37, 38, 39, 40, 41] (by decide +kernel) (by decide +kernel)
set_option maxRecDepth 20000 in
theorem gX6_block_X6_no : GoodIn wsX6_block (wsV RX6 67 RX6 yX6_no wsX6_no) := goodIn_app (goodIn_of _ (by decide +kernel)) ggX6_block_X6_no
set_option maxRecDepth 20000 in
theorem ggX6_block_X6_rowLength : GoodIn wsX6_block wsX6_rowLength := goodIn_r _ [13, 6, 33, 34, 35, 36, 37, 38, 39, 40, 41] (by decide +kernel) (by decide +kernel)
set_option maxRecDepth 20000 in
theorem gX6_block_X6_rowLength : GoodIn wsX6_block (wsV RX6 32 RX6 yX6_rowLength wsX6_rowLength) := goodIn_app (goodIn_of _ (by decide +kernel)) ggX6_block_X6_rowLength
set_option maxRecDepth 20000 in
theorem ggX6_block_X6_leaves : GoodIn wsX6_block wsX6_leaves := goodIn_r _ [16] (by decide +kernel) (by decide +kernel)
set_option maxRecDepth 20000 in
theorem gX6_block_X6_leaves : GoodIn wsX6_block (va_wsS RX6 56 yX6_leaves wsX6_leaves) := goodIn_app (goodIn_of _ (by decide +kernel)) ggX6_block_X6_leaves
set_option maxRecDepth 20000 in
theorem ggX6_block_X6_blocks : GoodIn wsX6_block wsX6_blocks := goodIn_r _ [19, 20, 21, 4, 22, 23, 24, 25] (by decide +kernel) (by decide +kernel)
set_option maxRecDepth 20000 in
theorem gX6_block_X6_blocks : GoodIn wsX6_block (va_wsS RX6 49 yX6_blocks wsX6_blocks) := goodIn_app (goodIn_of _ (by decide +kernel)) ggX6_block_X6_blocks
set_option maxRecDepth 20000 in
theorem ggX6_block_X6_id : GoodIn wsX6_block wsX6_id := goodIn_r _ [29, 6, 30, 31, 4, 32, 33, 34, 35, 36, 37, 38, 39, 40, 41] (by decide +kernel) (by decide +kernel)
set_option maxRecDepth 20000 in
theorem gX6_block_X6_id : GoodIn wsX6_block (wsV RX6 136 RX6 yX6_id wsX6_id) := goodIn_app (goodIn_of _ (by decide +kernel)) ggX6_block_X6_id
theorem dX6_block_0 : decode cX6_block 0 = .ok (.aload_n 0, 1) := by decide +kernel
theorem dX6_block_1 : decode cX6_block 1 = .ok (.iload_n 1, 1) := by decide +kernel
theorem dX6_block_2 : decode cX6_block 2 = .ok (.invokevirtual 67, 3) := by decide +kernel
theorem dX6_block_5 : decode cX6_block 5 = .ok (.ifCond .eq 5, 3) := by decide +kernel
theorem dX6_block_8 : decode cX6_block 8 = .ok (.iconst (-1), 1) := by decide +kernel
theorem dX6_block_9 : decode cX6_block 9 = .ok (.ireturn, 1) := by decide +kernel
theorem dX6_block_10 : decode cX6_block 10 = .ok (.iload_n 2, 1) := by decide +kernel
theorem dX6_block_11 : decode cX6_block 11 = .ok (.ifCond .lt 7, 3) := by decide +kernel
theorem dX6_block_14 : decode cX6_block 14 = .ok (.iload_n 3, 1) := by decide +kernel
theorem dX6_block_15 : decode cX6_block 15 = .ok (.ifCond .ge 6, 3) := by decide +kernel
theorem dX6_block_18 : decode cX6_block 18 = .ok (.bipush (-2), 2) := by decide +kernel
theorem dX6_block_20 : decode cX6_block 20 = .ok (.ireturn, 1) := by decide +kernel
theorem dX6_block_21 : decode cX6_block 21 = .ok (.aload_n 0, 1) := by decide +kernel
theorem dX6_block_22 : decode cX6_block 22 = .ok (.iload_n 1, 1) := by decide +kernel
theorem dX6_block_23 : decode cX6_block 23 = .ok (.invokevirtual 32, 3) := by decide +kernel
theorem dX6_block_26 : decode cX6_block 26 = .ok (.invokestatic 56, 3) := by decide +kernel
theorem dX6_block_29 : decode cX6_block 29 = .ok (.istore 4, 2) := by decide +kernel
theorem dX6_block_31 : decode cX6_block 31 = .ok (.iload_n 2, 1) := by decide +kernel
theorem dX6_block_32 : decode cX6_block 32 = .ok (.iconst 5, 1) := by decide +kernel
theorem dX6_block_33 : decode cX6_block 33 = .ok (.if_icmp .ge 23, 3) := by decide +kernel
theorem dX6_block_36 : decode cX6_block 36 = .ok (.iload_n 3, 1) := by decide +kernel
theorem dX6_block_37 : decode cX6_block 37 = .ok (.iload 4, 2) := by decide +kernel
theorem dX6_block_39 : decode cX6_block 39 = .ok (.iload_n 2, 1) := by decide +kernel
theorem dX6_block_40 : decode cX6_block 40 = .ok (.invokestatic 49, 3) := by decide +kernel
theorem dX6_block_43 : decode cX6_block 43 = .ok (.if_icmp .ge 13, 3) := by decide +kernel
theorem dX6_block_46 : decode cX6_block 46 = .ok (.aload_n 0, 1) := by decide +kernel
theorem dX6_block_47 : decode cX6_block 47 = .ok (.iload_n 1, 1) := by decide +kernel
theorem dX6_block_48 : decode cX6_block 48 = .ok (.iload_n 2, 1) := by decide +kernel
theorem dX6_block_49 : decode cX6_block 49 = .ok (.iload_n 3, 1) := by decide +kernel
theorem dX6_block_50 : decode cX6_block 50 = .ok (.invokevirtual 136, 3) := by decide +kernel
theorem dX6_block_53 : decode cX6_block 53 = .ok (.goto 5, 3) := by decide +kernel
theorem dX6_block_56 : decode cX6_block 56 = .ok (.bipush (-5), 2) := by decide +kernel
theorem dX6_block_58 : decode cX6_block 58 = .ok (.ireturn, 1) := by decide +kernel
set_option maxRecDepth 20000 in
theorem ggX6_has_X6_rowLength : GoodIn wsX6_has wsX6_rowLength := goodIn_r _ [5, 6, 26, 27, 28, 29, 30, 31, 32, 33, 34] (by decide +kernel) (by decide +kernel)
set_option maxRecDepth 20000 in
theorem gX6_has_X6_rowLength : GoodIn wsX6_has (wsV RX6 32 RX6 yX6_rowLength wsX6_rowLength) := goodIn_app (goodIn_of _ (by decide +kernel)) ggX6_has_X6_rowLength
set_option maxRecDepth 20000 in
theorem ggX6_has_X6_leaves : GoodIn wsX6_has wsX6_leaves := goodIn_r _ [9] (by decide +kernel) (by decide +kernel)
set_option maxRecDepth 20000 in
theorem gX6_has_X6_leaves : GoodIn wsX6_has (va_wsS RX6 56 yX6_leaves wsX6_leaves) := goodIn_app (goodIn_of _ (by decide +kernel)) ggX6_has_X6_leaves
set_option maxRecDepth 20000 in
theorem ggX6_has_X6_blocks : GoodIn wsX6_has wsX6_blocks := goodIn_r _ [12, 13, 14, 4, 15, 16, 17, 18] (by decide +kernel) (by decide +kernel)
set_option maxRecDepth 20000 in
theorem gX6_has_X6_blocks : GoodIn wsX6_has (va_wsS RX6 49 yX6_blocks wsX6_blocks) := goodIn_app (goodIn_of _ (by decide +kernel)) ggX6_has_X6_blocks
set_option maxRecDepth 20000 in
theorem ggX6_has_X6_id : GoodIn wsX6_has wsX6_id := goodIn_r _ [22, 6, 23, 24, 4, 25, 26, 27, 28, 29, 30, 31, 32, 33, 34] (by decide +kernel) (by decide +kernel)
set_option maxRecDepth 20000 in
theorem gX6_has_X6_id : GoodIn wsX6_has (wsV RX6 136 RX6 yX6_id wsX6_id) := goodIn_app (goodIn_of _ (by decide +kernel)) ggX6_has_X6_id
theorem dX6_has_0 : decode cX6_has 0 = .ok (.aload_n 0, 1) := by decide +kernel
theorem dX6_has_1 : decode cX6_has 1 = .ok (.iload_n 1, 1) := by decide +kernel
theorem dX6_has_2 : decode cX6_has 2 = .ok (.invokevirtual 32, 3) := by decide +kernel
theorem dX6_has_5 : decode cX6_has 5 = .ok (.invokestatic 56, 3) := by decide +kernel
theorem dX6_has_8 : decode cX6_has 8 = .ok (.istore_n 3, 1) := by decide +kernel
theorem dX6_has_9 : decode cX6_has 9 = .ok (.iconst 0, 1) := by decide +kernel
theorem dX6_has_10 : decode cX6_has 10 = .ok (.istore 4, 2) := by decide +kernel
theorem dX6_has_12 : decode cX6_has 12 = .ok (.iload 4, 2) := by decide +kernel
theorem dX6_has_14 : decode cX6_has 14 = .ok (.iconst 5, 1) := by decide +kernel
theorem dX6_has_15 : decode cX6_has 15 = .ok (.if_icmp .ge 44, 3) := by decide +kernel
theorem dX6_has_18 : decode cX6_has 18 = .ok (.iconst 0, 1) := by decide +kernel
theorem dX6_has_19 : decode cX6_has 19 = .ok (.istore 5, 2) := by decide +kernel
theorem dX6_has_21 : decode cX6_has 21 = .ok (.iload 5, 2) := by decide +kernel
theorem dX6_has_23 : decode cX6_has 23 = .ok (.iload_n 3, 1) := by decide +kernel
theorem dX6_has_24 : decode cX6_has 24 = .ok (.iload 4, 2) := by decide +kernel
theorem dX6_has_26 : decode cX6_has 26 = .ok (.invokestatic 49, 3) := by decide +kernel
theorem dX6_has_29 : decode cX6_has 29 = .ok (.if_icmp .ge 24, 3) := by decide +kernel
theorem dX6_has_32 : decode cX6_has 32 = .ok (.aload_n 0, 1) := by decide +kernel
theorem dX6_has_33 : decode cX6_has 33 = .ok (.iload_n 1, 1) := by decide +kernel
theorem dX6_has_34 : decode cX6_has 34 = .ok (.iload 4, 2) := by decide +kernel
theorem dX6_has_36 : decode cX6_has 36 = .ok (.iload 5, 2) := by decide +kernel
theorem dX6_has_38 : decode cX6_has 38 = .ok (.invokevirtual 136, 3) := by decide +kernel
theorem dX6_has_41 : decode cX6_has 41 = .ok (.iload_n 2, 1) := by decide +kernel
theorem dX6_has_42 : decode cX6_has 42 = .ok (.if_icmp .ne 5, 3) := by decide +kernel
theorem dX6_has_45 : decode cX6_has 45 = .ok (.iconst 1, 1) := by decide +kernel
theorem dX6_has_46 : decode cX6_has 46 = .ok (.ireturn, 1) := by decide +kernel
theorem dX6_has_47 : decode cX6_has 47 = .ok (.iinc 5 1, 3) := by decide +kernel
theorem dX6_has_50 : decode cX6_has 50 = .ok (.goto (-29), 3) := by decide +kernel
theorem dX6_has_53 : decode cX6_has 53 = .ok (.iinc 4 1, 3) := by decide +kernel
theorem dX6_has_56 : decode cX6_has 56 = .ok (.goto (-44), 3) := by decide +kernel
theorem dX6_has_59 : decode cX6_has 59 = .ok (.iconst 0, 1) := by decide +kernel
theorem dX6_has_60 : decode cX6_has 60 = .ok (.ireturn, 1) := by decide +kernel
set_option maxRecDepth 20000 in
theorem ggX6_sharedOf_X6_rowLength : GoodIn wsX6_sharedOf wsX6_rowLength := goodIn_r _ [5, 6, 41, 42, 43, 44, 45, 46, 47, 48, 49] (by decide +kernel) (by decide +kernel)
set_option maxRecDepth 20000 in
theorem gX6_sharedOf_X6_rowLength : GoodIn wsX6_sharedOf (wsV RX6 32 RX6 yX6_rowLength wsX6_rowLength) := goodIn_app (goodIn_of _ (by decide +kernel)) ggX6_sharedOf_X6_rowLength
set_option maxRecDepth 20000 in
theorem ggX6_sharedOf_X6_leaves : GoodIn wsX6_sharedOf wsX6_leaves := goodIn_r _ [9] (by decide +kernel) (by decide +kernel)
set_option maxRecDepth 20000 in
theorem gX6_sharedOf_X6_leaves : GoodIn wsX6_sharedOf (va_wsS RX6 56 yX6_leaves wsX6_leaves) := goodIn_app (goodIn_of _ (by decide +kernel)) ggX6_sharedOf_X6_leaves
set_option maxRecDepth 20000 in
theorem ggX6_sharedOf_X6_blocks : GoodIn wsX6_sharedOf wsX6_blocks := goodIn_r _ [12, 13, 14, 4, 15, 16, 17, 18] (by decide +kernel) (by decide +kernel)
set_option maxRecDepth 20000 in
theorem gX6_sharedOf_X6_blocks : GoodIn wsX6_sharedOf (va_wsS RX6 49 yX6_blocks wsX6_blocks) := goodIn_app (goodIn_of _ (by decide +kernel)) ggX6_sharedOf_X6_blocks
set_option maxRecDepth 20000 in
theorem ggX6_sharedOf_X6_id : GoodIn wsX6_sharedOf wsX6_id := goodIn_r _ [22, 6, 23, 24, 4, 25, 41, 42, 43, 44, 45, 46, 47, 48, 49] (by decide +kernel) (by decide +kernel)
set_option maxRecDepth 20000 in
theorem gX6_sharedOf_X6_id : GoodIn wsX6_sharedOf (wsV RX6 136 RX6 yX6_id wsX6_id) := goodIn_app (goodIn_of _ (by decide +kernel)) ggX6_sharedOf_X6_id
set_option maxRecDepth 20000 in
theorem ggX6_sharedOf_X6_isOfVector : GoodIn wsX6_sharedOf wsX6_isOfVector := goodIn_r _ [29, 6, 30, 31, 32, 4, 33, 34, 35, 36, 37, 38, 39, 40, 1, 2, 3, 5, 7, 8, 9, 10, 11, 12, 13, 14, 15, 16, 17, 18, 19, 20, 21, 22, 23, 24, 25, 41, 42, 43, 44, 45, 46, 47, 48, 49] (by decide +kernel) (by decide +kernel)
set_option maxRecDepth 20000 in
theorem gX6_sharedOf_X6_isOfVector : GoodIn wsX6_sharedOf (wsV RX6 140 RX6 yX6_isOfVector wsX6_isOfVector) := goodIn_app (goodIn_of _ (by decide +kernel)) ggX6_sharedOf_X6_isOfVector
set_option maxRecDepth 20000 in
theorem ggX6_sharedOf_X6_has : GoodIn wsX6_sharedOf wsX6_has := goodIn_r _ [40, 1, 2, 3, 4, 5, 6, 7, 8, 9, 10, 11, 12, 13, 14, 15, 16, 17, 18, 19, 20, 21, 22, 23, 24, 25, 41, 42, 43, 44, 45, 46, 47, 48, 49] (by decide +kernel) (by decide +kernel)
set_option maxRecDepth 20000 in
theorem gX6_sharedOf_X6_has : GoodIn wsX6_sharedOf (wsV RX6 143 RX6 yX6_has wsX6_has) := goodIn_app (goodIn_of _ (by decide +kernel)) ggX6_sharedOf_X6_has
theorem dX6_sharedOf_0 : decode cX6_sharedOf 0 = .ok (.aload_n 0, 1) := by decide +kernel
theorem dX6_sharedOf_1 : decode cX6_sharedOf 1 = .ok (.iload_n 1, 1) := by decide +kernel
theorem dX6_sharedOf_2 : decode cX6_sharedOf 2 = .ok (.invokevirtual 32, 3) := by decide +kernel
theorem dX6_sharedOf_5 : decode cX6_sharedOf 5 = .ok (.invokestatic 56, 3) := by decide +kernel
theorem dX6_sharedOf_8 : decode cX6_sharedOf 8 = .ok (.istore_n 3, 1) := by decide +kernel
theorem dX6_sharedOf_9 : decode cX6_sharedOf 9 = .ok (.iconst 0, 1) := by decide +kernel
theorem dX6_sharedOf_10 : decode cX6_sharedOf 10 = .ok (.istore 4, 2) := by decide +kernel
theorem dX6_sharedOf_12 : decode cX6_sharedOf 12 = .ok (.iconst 0, 1) := by decide +kernel
theorem dX6_sharedOf_13 : decode cX6_sharedOf 13 = .ok (.istore 5, 2) := by decide +kernel
theorem dX6_sharedOf_15 : decode cX6_sharedOf 15 = .ok (.iload 5, 2) := by decide +kernel
theorem dX6_sharedOf_17 : decode cX6_sharedOf 17 = .ok (.iconst 5, 1) := by decide +kernel
theorem dX6_sharedOf_18 : decode cX6_sharedOf 18 = .ok (.if_icmp .ge 78, 3) := by decide +kernel
theorem dX6_sharedOf_21 : decode cX6_sharedOf 21 = .ok (.iconst 0, 1) := by decide +kernel
theorem dX6_sharedOf_22 : decode cX6_sharedOf 22 = .ok (.istore 6, 2) := by decide +kernel
theorem dX6_sharedOf_24 : decode cX6_sharedOf 24 = .ok (.iload 6, 2) := by decide +kernel
theorem dX6_sharedOf_26 : decode cX6_sharedOf 26 = .ok (.iload_n 3, 1) := by decide +kernel
theorem dX6_sharedOf_27 : decode cX6_sharedOf 27 = .ok (.iload 5, 2) := by decide +kernel
theorem dX6_sharedOf_29 : decode cX6_sharedOf 29 = .ok (.invokestatic 49, 3) := by decide +kernel
theorem dX6_sharedOf_32 : decode cX6_sharedOf 32 = .ok (.if_icmp .ge 58, 3) := by decide +kernel
theorem dX6_sharedOf_35 : decode cX6_sharedOf 35 = .ok (.aload_n 0, 1) := by decide +kernel
theorem dX6_sharedOf_36 : decode cX6_sharedOf 36 = .ok (.iload_n 1, 1) := by decide +kernel
theorem dX6_sharedOf_37 : decode cX6_sharedOf 37 = .ok (.iload 5, 2) := by decide +kernel
theorem dX6_sharedOf_39 : decode cX6_sharedOf 39 = .ok (.iload 6, 2) := by decide +kernel
theorem dX6_sharedOf_41 : decode cX6_sharedOf 41 = .ok (.invokevirtual 136, 3) := by decide +kernel
theorem dX6_sharedOf_44 : decode cX6_sharedOf 44 = .ok (.istore 7, 2) := by decide +kernel
theorem dX6_sharedOf_46 : decode cX6_sharedOf 46 = .ok (.iload 4, 2) := by decide +kernel
theorem dX6_sharedOf_48 : decode cX6_sharedOf 48 = .ok (.iload_n 2, 1) := by decide +kernel
theorem dX6_sharedOf_49 : decode cX6_sharedOf 49 = .ok (.bipush (-5), 2) := by decide +kernel
theorem dX6_sharedOf_51 : decode cX6_sharedOf 51 = .ok (.if_icmp .ne 15, 3) := by decide +kernel
theorem dX6_sharedOf_54 : decode cX6_sharedOf 54 = .ok (.aload_n 0, 1) := by decide +kernel
theorem dX6_sharedOf_55 : decode cX6_sharedOf 55 = .ok (.iload 7, 2) := by decide +kernel
theorem dX6_sharedOf_57 : decode cX6_sharedOf 57 = .ok (.invokevirtual 140, 3) := by decide +kernel
theorem dX6_sharedOf_60 : decode cX6_sharedOf 60 = .ok (.ifCond .eq 20, 3) := by decide +kernel
theorem dX6_sharedOf_63 : decode cX6_sharedOf 63 = .ok (.goto 13, 3) := by decide +kernel
theorem dX6_sharedOf_66 : decode cX6_sharedOf 66 = .ok (.aload_n 0, 1) := by decide +kernel
theorem dX6_sharedOf_67 : decode cX6_sharedOf 67 = .ok (.iload_n 2, 1) := by decide +kernel
theorem dX6_sharedOf_68 : decode cX6_sharedOf 68 = .ok (.iload 7, 2) := by decide +kernel
theorem dX6_sharedOf_70 : decode cX6_sharedOf 70 = .ok (.invokevirtual 143, 3) := by decide +kernel
theorem dX6_sharedOf_73 : decode cX6_sharedOf 73 = .ok (.ifCond .eq 7, 3) := by decide +kernel
theorem dX6_sharedOf_76 : decode cX6_sharedOf 76 = .ok (.iconst 1, 1) := by decide +kernel
theorem dX6_sharedOf_77 : decode cX6_sharedOf 77 = .ok (.goto 4, 3) := by decide +kernel
theorem dX6_sharedOf_80 : decode cX6_sharedOf 80 = .ok (.iconst 0, 1) := by decide +kernel
theorem dX6_sharedOf_81 : decode cX6_sharedOf 81 = .ok (.iadd, 1) := by decide +kernel
theorem dX6_sharedOf_82 : decode cX6_sharedOf 82 = .ok (.istore 4, 2) := by decide +kernel
theorem dX6_sharedOf_84 : decode cX6_sharedOf 84 = .ok (.iinc 6 1, 3) := by decide +kernel
theorem dX6_sharedOf_87 : decode cX6_sharedOf 87 = .ok (.goto (-63), 3) := by decide +kernel
theorem dX6_sharedOf_90 : decode cX6_sharedOf 90 = .ok (.iinc 5 1, 3) := by decide +kernel
theorem dX6_sharedOf_93 : decode cX6_sharedOf 93 = .ok (.goto (-78), 3) := by decide +kernel
theorem dX6_sharedOf_96 : decode cX6_sharedOf 96 = .ok (.iload 4, 2) := by decide +kernel
theorem dX6_sharedOf_98 : decode cX6_sharedOf 98 = .ok (.ireturn, 1) := by decide +kernel
set_option maxRecDepth 20000 in
theorem ggX6_isOfVector_X6_no : GoodIn wsX6_isOfVector wsX6_no := goodIn_r _ [6, 1, 7, 8, 5, 9, 37, 38, 39, 40, 41, 42, 43, 44, 45] (by decide +kernel) (by decide +kernel)
set_option maxRecDepth 20000 in
theorem gX6_isOfVector_X6_no : GoodIn wsX6_isOfVector (wsV RX6 67 RX6 yX6_no wsX6_no) := goodIn_app (goodIn_of _ (by decide +kernel)) ggX6_isOfVector_X6_no
set_option maxRecDepth 20000 in
theorem ggX6_isOfVector_X6_has : GoodIn wsX6_isOfVector wsX6_has := goodIn_r _ [13, 14, 15, 16, 5, 17, 1, 18, 19, 20, 21, 22, 23, 24, 25, 26, 27, 28, 29, 30, 31, 32, 33, 34, 35, 36, 37, 38, 39, 40, 41, 42, 43, 44, 45] (by decide +kernel) (by decide +kernel)
set_option maxRecDepth 20000 in
theorem gX6_isOfVector_X6_has : GoodIn wsX6_isOfVector (wsV RX6 143 RX6 yX6_has wsX6_has) := goodIn_app (goodIn_of _ (by decide +kernel)) ggX6_isOfVector_X6_has
theorem dX6_isOfVector_0 : decode cX6_isOfVector 0 = .ok (.iconst 0, 1) := by decide +kernel
theorem dX6_isOfVector_1 : decode cX6_isOfVector 1 = .ok (.istore_n 2, 1) := by decide +kernel
theorem dX6_isOfVector_2 : decode cX6_isOfVector 2 = .ok (.iload_n 2, 1) := by decide +kernel
theorem dX6_isOfVector_3 : decode cX6_isOfVector 3 = .ok (.aload_n 0, 1) := by decide +kernel
theorem dX6_isOfVector_4 : decode cX6_isOfVector 4 = .ok (.getfield 7, 3) := by decide +kernel
theorem dX6_isOfVector_7 : decode cX6_isOfVector 7 = .ok (.sipush 10171, 3) := by decide +kernel
theorem dX6_isOfVector_10 : decode cX6_isOfVector 10 = .ok (.iaload, 1) := by decide +kernel
theorem dX6_isOfVector_11 : decode cX6_isOfVector 11 = .ok (.if_icmp .ge 28, 3) := by decide +kernel
theorem dX6_isOfVector_14 : decode cX6_isOfVector 14 = .ok (.aload_n 0, 1) := by decide +kernel
theorem dX6_isOfVector_15 : decode cX6_isOfVector 15 = .ok (.iload_n 2, 1) := by decide +kernel
theorem dX6_isOfVector_16 : decode cX6_isOfVector 16 = .ok (.invokevirtual 67, 3) := by decide +kernel
theorem dX6_isOfVector_19 : decode cX6_isOfVector 19 = .ok (.ifCond .ne 14, 3) := by decide +kernel
theorem dX6_isOfVector_22 : decode cX6_isOfVector 22 = .ok (.aload_n 0, 1) := by decide +kernel
theorem dX6_isOfVector_23 : decode cX6_isOfVector 23 = .ok (.iload_n 2, 1) := by decide +kernel
theorem dX6_isOfVector_24 : decode cX6_isOfVector 24 = .ok (.iload_n 1, 1) := by decide +kernel
theorem dX6_isOfVector_25 : decode cX6_isOfVector 25 = .ok (.invokevirtual 143, 3) := by decide +kernel
theorem dX6_isOfVector_28 : decode cX6_isOfVector 28 = .ok (.ifCond .eq 5, 3) := by decide +kernel
theorem dX6_isOfVector_31 : decode cX6_isOfVector 31 = .ok (.iconst 1, 1) := by decide +kernel
theorem dX6_isOfVector_32 : decode cX6_isOfVector 32 = .ok (.ireturn, 1) := by decide +kernel
theorem dX6_isOfVector_33 : decode cX6_isOfVector 33 = .ok (.iinc 2 1, 3) := by decide +kernel
theorem dX6_isOfVector_36 : decode cX6_isOfVector 36 = .ok (.goto (-34), 3) := by decide +kernel
theorem dX6_isOfVector_39 : decode cX6_isOfVector 39 = .ok (.iconst 0, 1) := by decide +kernel
theorem dX6_isOfVector_40 : decode cX6_isOfVector 40 = .ok (.ireturn, 1) := by decide +kernel
set_option maxRecDepth 20000 in
theorem ggX6_shared_X6_no : GoodIn wsX6_shared wsX6_no := goodIn_r _ [5, 6, 7, 8, 4, 9, 45, 46, 47, 48, 49, 50, 51, 52, 53] (by decide +kernel) (by decide +kernel)
set_option maxRecDepth 20000 in
theorem gX6_shared_X6_no : GoodIn wsX6_shared (wsV RX6 67 RX6 yX6_no wsX6_no) := goodIn_app (goodIn_of _ (by decide +kernel)) ggX6_shared_X6_no
set_option maxRecDepth 20000 in
theorem ggX6_shared_X6_sharedOf : GoodIn wsX6_shared wsX6_sharedOf := goodIn_r _ [13, 14, 15, 16, 4, 17, 6, 18, 19, 20, 21, 22, 23, 24, 25, 26, 27, 28, 29, 30, 31, 32, 33, 34, 35, 36, 37, 38, 39, 40, 1, 2, 3, 5, 7, 8, 9, 41, 42, 43, 44, 45, 46, 47, 48, 49, 50, 51, 52, 53] (by decide +kernel) (by decide +kernel)
set_option maxRecDepth 20000 in
theorem gX6_shared_X6_sharedOf : GoodIn wsX6_shared (wsV RX6 147 RX6 yX6_sharedOf wsX6_sharedOf) := goodIn_app (goodIn_of _ (by decide +kernel)) ggX6_shared_X6_sharedOf
theorem dX6_shared_0 : decode cX6_shared 0 = .ok (.aload_n 0, 1) := by decide +kernel
theorem dX6_shared_1 : decode cX6_shared 1 = .ok (.iload_n 1, 1) := by decide +kernel
theorem dX6_shared_2 : decode cX6_shared 2 = .ok (.invokevirtual 67, 3) := by decide +kernel
theorem dX6_shared_5 : decode cX6_shared 5 = .ok (.ifCond .ne 11, 3) := by decide +kernel
theorem dX6_shared_8 : decode cX6_shared 8 = .ok (.aload_n 0, 1) := by decide +kernel
theorem dX6_shared_9 : decode cX6_shared 9 = .ok (.iload_n 2, 1) := by decide +kernel
theorem dX6_shared_10 : decode cX6_shared 10 = .ok (.invokevirtual 67, 3) := by decide +kernel
theorem dX6_shared_13 : decode cX6_shared 13 = .ok (.ifCond .eq 7, 3) := by decide +kernel
theorem dX6_shared_16 : decode cX6_shared 16 = .ok (.iconst (-1), 1) := by decide +kernel
theorem dX6_shared_17 : decode cX6_shared 17 = .ok (.goto 9, 3) := by decide +kernel
theorem dX6_shared_20 : decode cX6_shared 20 = .ok (.aload_n 0, 1) := by decide +kernel
theorem dX6_shared_21 : decode cX6_shared 21 = .ok (.iload_n 1, 1) := by decide +kernel
theorem dX6_shared_22 : decode cX6_shared 22 = .ok (.iload_n 2, 1) := by decide +kernel
theorem dX6_shared_23 : decode cX6_shared 23 = .ok (.invokevirtual 147, 3) := by decide +kernel
theorem dX6_shared_26 : decode cX6_shared 26 = .ok (.ireturn, 1) := by decide +kernel
set_option maxRecDepth 20000 in
theorem ggX6_differ_X6_no : GoodIn wsX6_differ wsX6_no := goodIn_r _ [5, 6, 7, 8, 4, 9, 30, 31, 32, 33, 34, 35, 36, 37, 38] (by decide +kernel) (by decide +kernel)
set_option maxRecDepth 20000 in
theorem gX6_differ_X6_no : GoodIn wsX6_differ (wsV RX6 67 RX6 yX6_no wsX6_no) := goodIn_app (goodIn_of _ (by decide +kernel)) ggX6_differ_X6_no
set_option maxRecDepth 20000 in
theorem ggX6_differ_X6_length : GoodIn wsX6_differ wsX6_length := goodIn_r _ [13, 6, 14, 15, 16, 4, 17, 18, 19, 20, 21, 30, 31, 32, 33, 34, 35, 36, 37, 38] (by decide +kernel) (by decide +kernel)
set_option maxRecDepth 20000 in
theorem gX6_differ_X6_length : GoodIn wsX6_differ (wsV RX6 70 RX6 yX6_length wsX6_length) := goodIn_app (goodIn_of _ (by decide +kernel)) ggX6_differ_X6_length
set_option maxRecDepth 20000 in
theorem ggX6_differ_X6_value : GoodIn wsX6_differ wsX6_value := goodIn_r _ [25, 6, 26, 27, 28, 4, 29, 30, 31, 32, 33, 34, 35, 36, 37, 38] (by decide +kernel) (by decide +kernel)
set_option maxRecDepth 20000 in
theorem gX6_differ_X6_value : GoodIn wsX6_differ (wsV RX6 124 RX6 yX6_value wsX6_value) := goodIn_app (goodIn_of _ (by decide +kernel)) ggX6_differ_X6_value
theorem dX6_differ_0 : decode cX6_differ 0 = .ok (.aload_n 0, 1) := by decide +kernel
theorem dX6_differ_1 : decode cX6_differ 1 = .ok (.iload_n 1, 1) := by decide +kernel
theorem dX6_differ_2 : decode cX6_differ 2 = .ok (.invokevirtual 67, 3) := by decide +kernel
theorem dX6_differ_5 : decode cX6_differ 5 = .ok (.ifCond .ne 11, 3) := by decide +kernel
theorem dX6_differ_8 : decode cX6_differ 8 = .ok (.aload_n 0, 1) := by decide +kernel
theorem dX6_differ_9 : decode cX6_differ 9 = .ok (.iload_n 2, 1) := by decide +kernel
theorem dX6_differ_10 : decode cX6_differ 10 = .ok (.invokevirtual 67, 3) := by decide +kernel
theorem dX6_differ_13 : decode cX6_differ 13 = .ok (.ifCond .eq 5, 3) := by decide +kernel
theorem dX6_differ_16 : decode cX6_differ 16 = .ok (.iconst (-1), 1) := by decide +kernel
theorem dX6_differ_17 : decode cX6_differ 17 = .ok (.ireturn, 1) := by decide +kernel
theorem dX6_differ_18 : decode cX6_differ 18 = .ok (.iconst 0, 1) := by decide +kernel
theorem dX6_differ_19 : decode cX6_differ 19 = .ok (.istore_n 3, 1) := by decide +kernel
theorem dX6_differ_20 : decode cX6_differ 20 = .ok (.iload_n 3, 1) := by decide +kernel
theorem dX6_differ_21 : decode cX6_differ 21 = .ok (.aload_n 0, 1) := by decide +kernel
theorem dX6_differ_22 : decode cX6_differ 22 = .ok (.iload_n 1, 1) := by decide +kernel
theorem dX6_differ_23 : decode cX6_differ 23 = .ok (.invokevirtual 70, 3) := by decide +kernel
theorem dX6_differ_26 : decode cX6_differ 26 = .ok (.if_icmp .ge 33, 3) := by decide +kernel
theorem dX6_differ_29 : decode cX6_differ 29 = .ok (.iload_n 3, 1) := by decide +kernel
theorem dX6_differ_30 : decode cX6_differ 30 = .ok (.aload_n 0, 1) := by decide +kernel
theorem dX6_differ_31 : decode cX6_differ 31 = .ok (.iload_n 2, 1) := by decide +kernel
theorem dX6_differ_32 : decode cX6_differ 32 = .ok (.invokevirtual 70, 3) := by decide +kernel
theorem dX6_differ_35 : decode cX6_differ 35 = .ok (.if_icmp .ge 24, 3) := by decide +kernel
theorem dX6_differ_38 : decode cX6_differ 38 = .ok (.aload_n 0, 1) := by decide +kernel
theorem dX6_differ_39 : decode cX6_differ 39 = .ok (.iload_n 1, 1) := by decide +kernel
theorem dX6_differ_40 : decode cX6_differ 40 = .ok (.iload_n 3, 1) := by decide +kernel
theorem dX6_differ_41 : decode cX6_differ 41 = .ok (.invokevirtual 124, 3) := by decide +kernel
theorem dX6_differ_44 : decode cX6_differ 44 = .ok (.aload_n 0, 1) := by decide +kernel
theorem dX6_differ_45 : decode cX6_differ 45 = .ok (.iload_n 2, 1) := by decide +kernel
theorem dX6_differ_46 : decode cX6_differ 46 = .ok (.iload_n 3, 1) := by decide +kernel
theorem dX6_differ_47 : decode cX6_differ 47 = .ok (.invokevirtual 124, 3) := by decide +kernel
theorem dX6_differ_50 : decode cX6_differ 50 = .ok (.if_icmp .ne 9, 3) := by decide +kernel
theorem dX6_differ_53 : decode cX6_differ 53 = .ok (.iinc 3 1, 3) := by decide +kernel
theorem dX6_differ_56 : decode cX6_differ 56 = .ok (.goto (-36), 3) := by decide +kernel
theorem dX6_differ_59 : decode cX6_differ 59 = .ok (.iload_n 3, 1) := by decide +kernel
theorem dX6_differ_60 : decode cX6_differ 60 = .ok (.aload_n 0, 1) := by decide +kernel
theorem dX6_differ_61 : decode cX6_differ 61 = .ok (.iload_n 1, 1) := by decide +kernel
theorem dX6_differ_62 : decode cX6_differ 62 = .ok (.invokevirtual 70, 3) := by decide +kernel
theorem dX6_differ_65 : decode cX6_differ 65 = .ok (.if_icmp .ne 17, 3) := by decide +kernel
theorem dX6_differ_68 : decode cX6_differ 68 = .ok (.iload_n 3, 1) := by decide +kernel
theorem dX6_differ_69 : decode cX6_differ 69 = .ok (.aload_n 0, 1) := by decide +kernel
theorem dX6_differ_70 : decode cX6_differ 70 = .ok (.iload_n 2, 1) := by decide +kernel
theorem dX6_differ_71 : decode cX6_differ 71 = .ok (.invokevirtual 70, 3) := by decide +kernel
theorem dX6_differ_74 : decode cX6_differ 74 = .ok (.if_icmp .ne 8, 3) := by decide +kernel
theorem dX6_differ_77 : decode cX6_differ 77 = .ok (.bipush (-5), 2) := by decide +kernel
theorem dX6_differ_79 : decode cX6_differ 79 = .ok (.goto 4, 3) := by decide +kernel
theorem dX6_differ_82 : decode cX6_differ 82 = .ok (.iload_n 3, 1) := by decide +kernel
theorem dX6_differ_83 : decode cX6_differ 83 = .ok (.ireturn, 1) := by decide +kernel
set_option maxRecDepth 20000 in
theorem ggX6_find_X6_no : GoodIn wsX6_find wsX6_no := goodIn_r _ [5, 6, 7, 8, 4, 9, 30, 31, 32, 33, 34, 35, 36, 37, 38] (by decide +kernel) (by decide +kernel)
set_option maxRecDepth 20000 in
theorem gX6_find_X6_no : GoodIn wsX6_find (wsV RX6 67 RX6 yX6_no wsX6_no) := goodIn_app (goodIn_of _ (by decide +kernel)) ggX6_find_X6_no
set_option maxRecDepth 20000 in
theorem ggX6_find_X6_length : GoodIn wsX6_find wsX6_length := goodIn_r _ [13, 6, 14, 15, 16, 4, 17, 18, 19, 20, 21, 30, 31, 32, 33, 34, 35, 36, 37, 38] (by decide +kernel) (by decide +kernel)
set_option maxRecDepth 20000 in
theorem gX6_find_X6_length : GoodIn wsX6_find (wsV RX6 70 RX6 yX6_length wsX6_length) := goodIn_app (goodIn_of _ (by decide +kernel)) ggX6_find_X6_length
set_option maxRecDepth 20000 in
theorem ggX6_find_X6_value : GoodIn wsX6_find wsX6_value := goodIn_r _ [25, 6, 26, 27, 28, 4, 29, 30, 31, 32, 33, 34, 35, 36, 37, 38] (by decide +kernel) (by decide +kernel)
set_option maxRecDepth 20000 in
theorem gX6_find_X6_value : GoodIn wsX6_find (wsV RX6 124 RX6 yX6_value wsX6_value) := goodIn_app (goodIn_of _ (by decide +kernel)) ggX6_find_X6_value
theorem dX6_find_0 : decode cX6_find 0 = .ok (.aload_n 0, 1) := by decide +kernel
theorem dX6_find_1 : decode cX6_find 1 = .ok (.iload_n 1, 1) := by decide +kernel
theorem dX6_find_2 : decode cX6_find 2 = .ok (.invokevirtual 67, 3) := by decide +kernel
theorem dX6_find_5 : decode cX6_find 5 = .ok (.ifCond .eq 5, 3) := by decide +kernel
theorem dX6_find_8 : decode cX6_find 8 = .ok (.iconst (-1), 1) := by decide +kernel
theorem dX6_find_9 : decode cX6_find 9 = .ok (.ireturn, 1) := by decide +kernel
theorem dX6_find_10 : decode cX6_find 10 = .ok (.iload_n 3, 1) := by decide +kernel
theorem dX6_find_11 : decode cX6_find 11 = .ok (.ifCond .ge 6, 3) := by decide +kernel
theorem dX6_find_14 : decode cX6_find 14 = .ok (.bipush (-2), 2) := by decide +kernel
theorem dX6_find_16 : decode cX6_find 16 = .ok (.ireturn, 1) := by decide +kernel
theorem dX6_find_17 : decode cX6_find 17 = .ok (.iload_n 3, 1) := by decide +kernel
theorem dX6_find_18 : decode cX6_find 18 = .ok (.istore 4, 2) := by decide +kernel
theorem dX6_find_20 : decode cX6_find 20 = .ok (.iload 4, 2) := by decide +kernel
theorem dX6_find_22 : decode cX6_find 22 = .ok (.aload_n 0, 1) := by decide +kernel
theorem dX6_find_23 : decode cX6_find 23 = .ok (.iload_n 1, 1) := by decide +kernel
theorem dX6_find_24 : decode cX6_find 24 = .ok (.invokevirtual 70, 3) := by decide +kernel
theorem dX6_find_27 : decode cX6_find 27 = .ok (.if_icmp .ge 23, 3) := by decide +kernel
theorem dX6_find_30 : decode cX6_find 30 = .ok (.aload_n 0, 1) := by decide +kernel
theorem dX6_find_31 : decode cX6_find 31 = .ok (.iload_n 1, 1) := by decide +kernel
theorem dX6_find_32 : decode cX6_find 32 = .ok (.iload 4, 2) := by decide +kernel
theorem dX6_find_34 : decode cX6_find 34 = .ok (.invokevirtual 124, 3) := by decide +kernel
theorem dX6_find_37 : decode cX6_find 37 = .ok (.iload_n 2, 1) := by decide +kernel
theorem dX6_find_38 : decode cX6_find 38 = .ok (.if_icmp .ne 6, 3) := by decide +kernel
theorem dX6_find_41 : decode cX6_find 41 = .ok (.iload 4, 2) := by decide +kernel
theorem dX6_find_43 : decode cX6_find 43 = .ok (.ireturn, 1) := by decide +kernel
theorem dX6_find_44 : decode cX6_find 44 = .ok (.iinc 4 1, 3) := by decide +kernel
theorem dX6_find_47 : decode cX6_find 47 = .ok (.goto (-27), 3) := by decide +kernel
theorem dX6_find_50 : decode cX6_find 50 = .ok (.bipush (-5), 2) := by decide +kernel
theorem dX6_find_52 : decode cX6_find 52 = .ok (.ireturn, 1) := by decide +kernel
set_option maxRecDepth 20000 in
theorem ggX6_wouldMake_X6_no : GoodIn wsX6_wouldMake wsX6_no := goodIn_r _ [5, 6, 7, 8, 4, 9, 30, 31, 32, 33, 34, 35, 36, 37, 38] (by decide +kernel) (by decide +kernel)
set_option maxRecDepth 20000 in
theorem gX6_wouldMake_X6_no : GoodIn wsX6_wouldMake (wsV RX6 67 RX6 yX6_no wsX6_no) := goodIn_app (goodIn_of _ (by decide +kernel)) ggX6_wouldMake_X6_no
set_option maxRecDepth 20000 in
theorem ggX6_wouldMake_X6_in : GoodIn wsX6_wouldMake wsX6_in := goodIn_r _ [9] (by decide +kernel) (by decide +kernel)
set_option maxRecDepth 20000 in
theorem gX6_wouldMake_X6_in : GoodIn wsX6_wouldMake (va_wsS RX6 24 yX6_in wsX6_in) := goodIn_app (goodIn_of _ (by decide +kernel)) ggX6_wouldMake_X6_in
set_option maxRecDepth 20000 in
theorem ggX6_wouldMake_X6_rowLength : GoodIn wsX6_wouldMake wsX6_rowLength := goodIn_r _ [13, 6, 30, 31, 32, 33, 34, 35, 36, 37, 38] (by decide +kernel) (by decide +kernel)
set_option maxRecDepth 20000 in
theorem gX6_wouldMake_X6_rowLength : GoodIn wsX6_wouldMake (wsV RX6 32 RX6 yX6_rowLength wsX6_rowLength) := goodIn_app (goodIn_of _ (by decide +kernel)) ggX6_wouldMake_X6_rowLength
set_option maxRecDepth 20000 in
theorem ggX6_wouldMake_X6_leaves : GoodIn wsX6_wouldMake wsX6_leaves := goodIn_r _ [16] (by decide +kernel) (by decide +kernel)
set_option maxRecDepth 20000 in
theorem gX6_wouldMake_X6_leaves : GoodIn wsX6_wouldMake (va_wsS RX6 56 yX6_leaves wsX6_leaves) := goodIn_app (goodIn_of _ (by decide +kernel)) ggX6_wouldMake_X6_leaves
set_option maxRecDepth 20000 in
theorem ggX6_wouldMake_X6_isWindow : GoodIn wsX6_wouldMake wsX6_isWindow := goodIn_r _ [20, 6, 30, 31, 32, 33, 34, 35, 36, 37, 38] (by decide +kernel) (by decide +kernel)
set_option maxRecDepth 20000 in
theorem gX6_wouldMake_X6_isWindow : GoodIn wsX6_wouldMake (wsV RX6 28 RX6 yX6_isWindow wsX6_isWindow) := goodIn_app (goodIn_of _ (by decide +kernel)) ggX6_wouldMake_X6_isWindow
set_option maxRecDepth 20000 in
theorem ggX6_wouldMake_X6_rootLevel : GoodIn wsX6_wouldMake wsX6_rootLevel := goodIn_r _ [23, 24, 25, 4, 26] (by decide +kernel) (by decide +kernel)
set_option maxRecDepth 20000 in
theorem gX6_wouldMake_X6_rootLevel : GoodIn wsX6_wouldMake (va_wsS RX6 43 yX6_rootLevel wsX6_rootLevel) := goodIn_app (goodIn_of _ (by decide +kernel)) ggX6_wouldMake_X6_rootLevel
set_option maxRecDepth 20000 in
theorem ggX6_wouldMake_X6_power : GoodIn wsX6_wouldMake wsX6_power := goodIn_r _ [26] (by decide +kernel) (by decide +kernel)
set_option maxRecDepth 20000 in
theorem gX6_wouldMake_X6_power : GoodIn wsX6_wouldMake (va_wsS RX6 46 yX6_power wsX6_power) := goodIn_app (goodIn_of _ (by decide +kernel)) ggX6_wouldMake_X6_power
set_option maxRecDepth 20000 in
theorem ggX6_wouldMake_X6_blocks : GoodIn wsX6_wouldMake wsX6_blocks := goodIn_r _ [29, 21, 22, 4, 23, 24, 25, 26] (by decide +kernel) (by decide +kernel)
set_option maxRecDepth 20000 in
theorem gX6_wouldMake_X6_blocks : GoodIn wsX6_wouldMake (va_wsS RX6 49 yX6_blocks wsX6_blocks) := goodIn_app (goodIn_of _ (by decide +kernel)) ggX6_wouldMake_X6_blocks
theorem dX6_wouldMake_0 : decode cX6_wouldMake 0 = .ok (.aload_n 0, 1) := by decide +kernel
theorem dX6_wouldMake_1 : decode cX6_wouldMake 1 = .ok (.iload_n 1, 1) := by decide +kernel
theorem dX6_wouldMake_2 : decode cX6_wouldMake 2 = .ok (.invokevirtual 67, 3) := by decide +kernel
theorem dX6_wouldMake_5 : decode cX6_wouldMake 5 = .ok (.ifCond .eq 5, 3) := by decide +kernel
theorem dX6_wouldMake_8 : decode cX6_wouldMake 8 = .ok (.iconst (-1), 1) := by decide +kernel
theorem dX6_wouldMake_9 : decode cX6_wouldMake 9 = .ok (.ireturn, 1) := by decide +kernel
theorem dX6_wouldMake_10 : decode cX6_wouldMake 10 = .ok (.iload_n 2, 1) := by decide +kernel
theorem dX6_wouldMake_11 : decode cX6_wouldMake 11 = .ok (.iconst 0, 1) := by decide +kernel
theorem dX6_wouldMake_12 : decode cX6_wouldMake 12 = .ok (.iconst 2, 1) := by decide +kernel
theorem dX6_wouldMake_13 : decode cX6_wouldMake 13 = .ok (.invokestatic 24, 3) := by decide +kernel
theorem dX6_wouldMake_16 : decode cX6_wouldMake 16 = .ok (.ifCond .ne 6, 3) := by decide +kernel
theorem dX6_wouldMake_19 : decode cX6_wouldMake 19 = .ok (.bipush (-2), 2) := by decide +kernel
theorem dX6_wouldMake_21 : decode cX6_wouldMake 21 = .ok (.ireturn, 1) := by decide +kernel
theorem dX6_wouldMake_22 : decode cX6_wouldMake 22 = .ok (.aload_n 0, 1) := by decide +kernel
theorem dX6_wouldMake_23 : decode cX6_wouldMake 23 = .ok (.iload_n 1, 1) := by decide +kernel
theorem dX6_wouldMake_24 : decode cX6_wouldMake 24 = .ok (.invokevirtual 32, 3) := by decide +kernel
theorem dX6_wouldMake_27 : decode cX6_wouldMake 27 = .ok (.istore_n 3, 1) := by decide +kernel
theorem dX6_wouldMake_28 : decode cX6_wouldMake 28 = .ok (.iload_n 3, 1) := by decide +kernel
theorem dX6_wouldMake_29 : decode cX6_wouldMake 29 = .ok (.invokestatic 56, 3) := by decide +kernel
theorem dX6_wouldMake_32 : decode cX6_wouldMake 32 = .ok (.istore 4, 2) := by decide +kernel
theorem dX6_wouldMake_34 : decode cX6_wouldMake 34 = .ok (.aload_n 0, 1) := by decide +kernel
theorem dX6_wouldMake_35 : decode cX6_wouldMake 35 = .ok (.iload_n 1, 1) := by decide +kernel
theorem dX6_wouldMake_36 : decode cX6_wouldMake 36 = .ok (.invokevirtual 28, 3) := by decide +kernel
theorem dX6_wouldMake_39 : decode cX6_wouldMake 39 = .ok (.ifCond .ne 21, 3) := by decide +kernel
theorem dX6_wouldMake_42 : decode cX6_wouldMake 42 = .ok (.iload_n 2, 1) := by decide +kernel
theorem dX6_wouldMake_43 : decode cX6_wouldMake 43 = .ok (.ifCond .ne 13, 3) := by decide +kernel
theorem dX6_wouldMake_46 : decode cX6_wouldMake 46 = .ok (.iload_n 3, 1) := by decide +kernel
theorem dX6_wouldMake_47 : decode cX6_wouldMake 47 = .ok (.sipush 300, 3) := by decide +kernel
theorem dX6_wouldMake_50 : decode cX6_wouldMake 50 = .ok (.if_icmp .ne 13, 3) := by decide +kernel
theorem dX6_wouldMake_53 : decode cX6_wouldMake 53 = .ok (.goto 7, 3) := by decide +kernel
theorem dX6_wouldMake_56 : decode cX6_wouldMake 56 = .ok (.iload_n 3, 1) := by decide +kernel
theorem dX6_wouldMake_57 : decode cX6_wouldMake 57 = .ok (.ifCond .ne 6, 3) := by decide +kernel
theorem dX6_wouldMake_60 : decode cX6_wouldMake 60 = .ok (.bipush (-4), 2) := by decide +kernel
theorem dX6_wouldMake_62 : decode cX6_wouldMake 62 = .ok (.ireturn, 1) := by decide +kernel
theorem dX6_wouldMake_63 : decode cX6_wouldMake 63 = .ok (.iload_n 2, 1) := by decide +kernel
theorem dX6_wouldMake_64 : decode cX6_wouldMake 64 = .ok (.ifCond .ne 27, 3) := by decide +kernel
theorem dX6_wouldMake_67 : decode cX6_wouldMake 67 = .ok (.iload_n 3, 1) := by decide +kernel
theorem dX6_wouldMake_68 : decode cX6_wouldMake 68 = .ok (.ifCond .le 21, 3) := by decide +kernel
theorem dX6_wouldMake_71 : decode cX6_wouldMake 71 = .ok (.iload_n 3, 1) := by decide +kernel
theorem dX6_wouldMake_72 : decode cX6_wouldMake 72 = .ok (.iconst 4, 1) := by decide +kernel
theorem dX6_wouldMake_73 : decode cX6_wouldMake 73 = .ok (.irem, 1) := by decide +kernel
theorem dX6_wouldMake_74 : decode cX6_wouldMake 74 = .ok (.ifCond .ne 15, 3) := by decide +kernel
theorem dX6_wouldMake_77 : decode cX6_wouldMake 77 = .ok (.iconst 1, 1) := by decide +kernel
theorem dX6_wouldMake_78 : decode cX6_wouldMake 78 = .ok (.iload 4, 2) := by decide +kernel
theorem dX6_wouldMake_80 : decode cX6_wouldMake 80 = .ok (.iconst 1, 1) := by decide +kernel
theorem dX6_wouldMake_81 : decode cX6_wouldMake 81 = .ok (.iadd, 1) := by decide +kernel
theorem dX6_wouldMake_82 : decode cX6_wouldMake 82 = .ok (.invokestatic 43, 3) := by decide +kernel
theorem dX6_wouldMake_85 : decode cX6_wouldMake 85 = .ok (.iadd, 1) := by decide +kernel
theorem dX6_wouldMake_86 : decode cX6_wouldMake 86 = .ok (.goto 4, 3) := by decide +kernel
theorem dX6_wouldMake_89 : decode cX6_wouldMake 89 = .ok (.iconst 0, 1) := by decide +kernel
theorem dX6_wouldMake_90 : decode cX6_wouldMake 90 = .ok (.ireturn, 1) := by decide +kernel
theorem dX6_wouldMake_91 : decode cX6_wouldMake 91 = .ok (.iload_n 2, 1) := by decide +kernel
theorem dX6_wouldMake_92 : decode cX6_wouldMake 92 = .ok (.iconst 2, 1) := by decide +kernel
theorem dX6_wouldMake_93 : decode cX6_wouldMake 93 = .ok (.if_icmp .ne 20, 3) := by decide +kernel
theorem dX6_wouldMake_96 : decode cX6_wouldMake 96 = .ok (.iload 4, 2) := by decide +kernel
theorem dX6_wouldMake_98 : decode cX6_wouldMake 98 = .ok (.ifCond .ne 7, 3) := by decide +kernel
theorem dX6_wouldMake_101 : decode cX6_wouldMake 101 = .ok (.iconst 0, 1) := by decide +kernel
theorem dX6_wouldMake_102 : decode cX6_wouldMake 102 = .ok (.goto 10, 3) := by decide +kernel
theorem dX6_wouldMake_105 : decode cX6_wouldMake 105 = .ok (.iconst 1, 1) := by decide +kernel
theorem dX6_wouldMake_106 : decode cX6_wouldMake 106 = .ok (.iload 4, 2) := by decide +kernel
theorem dX6_wouldMake_108 : decode cX6_wouldMake 108 = .ok (.invokestatic 43, 3) := by decide +kernel
theorem dX6_wouldMake_111 : decode cX6_wouldMake 111 = .ok (.iadd, 1) := by decide +kernel
theorem dX6_wouldMake_112 : decode cX6_wouldMake 112 = .ok (.ireturn, 1) := by decide +kernel
theorem dX6_wouldMake_113 : decode cX6_wouldMake 113 = .ok (.iload_n 3, 1) := by decide +kernel
theorem dX6_wouldMake_114 : decode cX6_wouldMake 114 = .ok (.iconst 1, 1) := by decide +kernel
theorem dX6_wouldMake_115 : decode cX6_wouldMake 115 = .ok (.isub, 1) := by decide +kernel
theorem dX6_wouldMake_116 : decode cX6_wouldMake 116 = .ok (.invokestatic 56, 3) := by decide +kernel
theorem dX6_wouldMake_119 : decode cX6_wouldMake 119 = .ok (.istore 5, 2) := by decide +kernel
theorem dX6_wouldMake_121 : decode cX6_wouldMake 121 = .ok (.iconst 0, 1) := by decide +kernel
theorem dX6_wouldMake_122 : decode cX6_wouldMake 122 = .ok (.istore 6, 2) := by decide +kernel
theorem dX6_wouldMake_124 : decode cX6_wouldMake 124 = .ok (.iconst 1, 1) := by decide +kernel
theorem dX6_wouldMake_125 : decode cX6_wouldMake 125 = .ok (.istore 7, 2) := by decide +kernel
theorem dX6_wouldMake_127 : decode cX6_wouldMake 127 = .ok (.iload 7, 2) := by decide +kernel
theorem dX6_wouldMake_129 : decode cX6_wouldMake 129 = .ok (.iload 5, 2) := by decide +kernel
theorem dX6_wouldMake_131 : decode cX6_wouldMake 131 = .ok (.invokestatic 43, 3) := by decide +kernel
theorem dX6_wouldMake_134 : decode cX6_wouldMake 134 = .ok (.if_icmp .gt 44, 3) := by decide +kernel
theorem dX6_wouldMake_137 : decode cX6_wouldMake 137 = .ok (.iload 5, 2) := by decide +kernel
theorem dX6_wouldMake_139 : decode cX6_wouldMake 139 = .ok (.iload 4, 2) := by decide +kernel
theorem dX6_wouldMake_141 : decode cX6_wouldMake 141 = .ok (.if_icmp .ge 37, 3) := by decide +kernel
theorem dX6_wouldMake_144 : decode cX6_wouldMake 144 = .ok (.iload 6, 2) := by decide +kernel
theorem dX6_wouldMake_146 : decode cX6_wouldMake 146 = .ok (.iload 5, 2) := by decide +kernel
theorem dX6_wouldMake_148 : decode cX6_wouldMake 148 = .ok (.iload 7, 2) := by decide +kernel
theorem dX6_wouldMake_150 : decode cX6_wouldMake 150 = .ok (.invokestatic 46, 3) := by decide +kernel
theorem dX6_wouldMake_153 : decode cX6_wouldMake 153 = .ok (.idiv, 1) := by decide +kernel
theorem dX6_wouldMake_154 : decode cX6_wouldMake 154 = .ok (.iload 5, 2) := by decide +kernel
theorem dX6_wouldMake_156 : decode cX6_wouldMake 156 = .ok (.iload 7, 2) := by decide +kernel
theorem dX6_wouldMake_158 : decode cX6_wouldMake 158 = .ok (.invokestatic 49, 3) := by decide +kernel
theorem dX6_wouldMake_161 : decode cX6_wouldMake 161 = .ok (.if_icmp .ge 7, 3) := by decide +kernel
theorem dX6_wouldMake_164 : decode cX6_wouldMake 164 = .ok (.iconst 1, 1) := by decide +kernel
theorem dX6_wouldMake_165 : decode cX6_wouldMake 165 = .ok (.goto 4, 3) := by decide +kernel
theorem dX6_wouldMake_168 : decode cX6_wouldMake 168 = .ok (.iconst 0, 1) := by decide +kernel
theorem dX6_wouldMake_169 : decode cX6_wouldMake 169 = .ok (.iadd, 1) := by decide +kernel
theorem dX6_wouldMake_170 : decode cX6_wouldMake 170 = .ok (.istore 6, 2) := by decide +kernel
theorem dX6_wouldMake_172 : decode cX6_wouldMake 172 = .ok (.iinc 7 1, 3) := by decide +kernel
theorem dX6_wouldMake_175 : decode cX6_wouldMake 175 = .ok (.goto (-48), 3) := by decide +kernel
theorem dX6_wouldMake_178 : decode cX6_wouldMake 178 = .ok (.iload 6, 2) := by decide +kernel
theorem dX6_wouldMake_180 : decode cX6_wouldMake 180 = .ok (.ireturn, 1) := by decide +kernel
set_option maxRecDepth 20000 in
theorem ggX6_own_X6_rowLength : GoodIn wsX6_own wsX6_rowLength := goodIn_r _ [6, 1, 22, 23, 24, 25, 26, 27, 28, 29, 30] (by decide +kernel) (by decide +kernel)
set_option maxRecDepth 20000 in
theorem gX6_own_X6_rowLength : GoodIn wsX6_own (wsV RX6 32 RX6 yX6_rowLength wsX6_rowLength) := goodIn_app (goodIn_of _ (by decide +kernel)) ggX6_own_X6_rowLength
set_option maxRecDepth 20000 in
theorem ggX6_own_X6_leaves : GoodIn wsX6_own wsX6_leaves := goodIn_r _ [9] (by decide +kernel) (by decide +kernel)
set_option maxRecDepth 20000 in
theorem gX6_own_X6_leaves : GoodIn wsX6_own (va_wsS RX6 56 yX6_leaves wsX6_leaves) := goodIn_app (goodIn_of _ (by decide +kernel)) ggX6_own_X6_leaves
set_option maxRecDepth 20000 in
theorem ggX6_own_X6_blocks : GoodIn wsX6_own wsX6_blocks := goodIn_r _ [12, 13, 14, 5, 15, 16, 17, 18] (by decide +kernel) (by decide +kernel)
set_option maxRecDepth 20000 in
theorem gX6_own_X6_blocks : GoodIn wsX6_own (va_wsS RX6 49 yX6_blocks wsX6_blocks) := goodIn_app (goodIn_of _ (by decide +kernel)) ggX6_own_X6_blocks
set_option maxRecDepth 20000 in
theorem ggX6_own_X6_begins : GoodIn wsX6_own wsX6_begins := goodIn_r _ [21] (by decide +kernel) (by decide +kernel)
set_option maxRecDepth 20000 in
theorem gX6_own_X6_begins : GoodIn wsX6_own (va_wsS RX6 53 yX6_begins wsX6_begins) := goodIn_app (goodIn_of _ (by decide +kernel)) ggX6_own_X6_begins
theorem dX6_own_0 : decode cX6_own 0 = .ok (.aload_n 0, 1) := by decide +kernel
theorem dX6_own_1 : decode cX6_own 1 = .ok (.bipush 24, 2) := by decide +kernel
theorem dX6_own_3 : decode cX6_own 3 = .ok (.invokevirtual 32, 3) := by decide +kernel
theorem dX6_own_6 : decode cX6_own 6 = .ok (.invokestatic 56, 3) := by decide +kernel
theorem dX6_own_9 : decode cX6_own 9 = .ok (.istore_n 1, 1) := by decide +kernel
theorem dX6_own_10 : decode cX6_own 10 = .ok (.iconst 0, 1) := by decide +kernel
theorem dX6_own_11 : decode cX6_own 11 = .ok (.istore_n 2, 1) := by decide +kernel
theorem dX6_own_12 : decode cX6_own 12 = .ok (.iconst 0, 1) := by decide +kernel
theorem dX6_own_13 : decode cX6_own 13 = .ok (.istore_n 3, 1) := by decide +kernel
theorem dX6_own_14 : decode cX6_own 14 = .ok (.iload_n 3, 1) := by decide +kernel
theorem dX6_own_15 : decode cX6_own 15 = .ok (.iconst 5, 1) := by decide +kernel
theorem dX6_own_16 : decode cX6_own 16 = .ok (.if_icmp .ge 47, 3) := by decide +kernel
theorem dX6_own_19 : decode cX6_own 19 = .ok (.iconst 0, 1) := by decide +kernel
theorem dX6_own_20 : decode cX6_own 20 = .ok (.istore 4, 2) := by decide +kernel
theorem dX6_own_22 : decode cX6_own 22 = .ok (.iload 4, 2) := by decide +kernel
theorem dX6_own_24 : decode cX6_own 24 = .ok (.iload_n 1, 1) := by decide +kernel
theorem dX6_own_25 : decode cX6_own 25 = .ok (.iload_n 3, 1) := by decide +kernel
theorem dX6_own_26 : decode cX6_own 26 = .ok (.invokestatic 49, 3) := by decide +kernel
theorem dX6_own_29 : decode cX6_own 29 = .ok (.if_icmp .ge 28, 3) := by decide +kernel
theorem dX6_own_32 : decode cX6_own 32 = .ok (.iload_n 2, 1) := by decide +kernel
theorem dX6_own_33 : decode cX6_own 33 = .ok (.aload_n 0, 1) := by decide +kernel
theorem dX6_own_34 : decode cX6_own 34 = .ok (.getfield 7, 3) := by decide +kernel
theorem dX6_own_37 : decode cX6_own 37 = .ok (.sipush 10174, 3) := by decide +kernel
theorem dX6_own_40 : decode cX6_own 40 = .ok (.iload_n 3, 1) := by decide +kernel
theorem dX6_own_41 : decode cX6_own 41 = .ok (.invokestatic 53, 3) := by decide +kernel
theorem dX6_own_44 : decode cX6_own 44 = .ok (.iadd, 1) := by decide +kernel
theorem dX6_own_45 : decode cX6_own 45 = .ok (.iload 4, 2) := by decide +kernel
theorem dX6_own_47 : decode cX6_own 47 = .ok (.iadd, 1) := by decide +kernel
theorem dX6_own_48 : decode cX6_own 48 = .ok (.iaload, 1) := by decide +kernel
theorem dX6_own_49 : decode cX6_own 49 = .ok (.iadd, 1) := by decide +kernel
theorem dX6_own_50 : decode cX6_own 50 = .ok (.istore_n 2, 1) := by decide +kernel
theorem dX6_own_51 : decode cX6_own 51 = .ok (.iinc 4 1, 3) := by decide +kernel
theorem dX6_own_54 : decode cX6_own 54 = .ok (.goto (-32), 3) := by decide +kernel
theorem dX6_own_57 : decode cX6_own 57 = .ok (.iinc 3 1, 3) := by decide +kernel
theorem dX6_own_60 : decode cX6_own 60 = .ok (.goto (-46), 3) := by decide +kernel
theorem dX6_own_63 : decode cX6_own 63 = .ok (.iload_n 2, 1) := by decide +kernel
theorem dX6_own_64 : decode cX6_own 64 = .ok (.ireturn, 1) := by decide +kernel
set_option maxRecDepth 20000 in
theorem ggX6_edit_X6_in : GoodIn wsX6_edit wsX6_in := goodIn_r _ [4] (by decide +kernel) (by decide +kernel)
set_option maxRecDepth 20000 in
theorem gX6_edit_X6_in : GoodIn wsX6_edit (va_wsS RX6 24 yX6_in wsX6_in) := goodIn_app (goodIn_of _ (by decide +kernel)) ggX6_edit_X6_in
set_option maxRecDepth 20000 in
theorem ggX6_edit_X6_noEdit : GoodIn wsX6_edit wsX6_noEdit := goodIn_r _ [8, 9, 56, 57, 58, 59, 60, 61, 62, 63, 64] (by decide +kernel) (by decide +kernel)
set_option maxRecDepth 20000 in
theorem gX6_edit_X6_noEdit : GoodIn wsX6_edit (wsV RX6 99 RX6 yX6_noEdit wsX6_noEdit) := goodIn_app (goodIn_of _ (by decide +kernel)) ggX6_edit_X6_noEdit
set_option maxRecDepth 20000 in
theorem ggX6_edit_X6_rowLength : GoodIn wsX6_edit wsX6_rowLength := goodIn_r _ [13, 9, 56, 57, 58, 59, 60, 61, 62, 63, 64] (by decide +kernel) (by decide +kernel)
set_option maxRecDepth 20000 in
theorem gX6_edit_X6_rowLength : GoodIn wsX6_edit (wsV RX6 32 RX6 yX6_rowLength wsX6_rowLength) := goodIn_app (goodIn_of _ (by decide +kernel)) ggX6_edit_X6_rowLength
set_option maxRecDepth 20000 in
theorem ggX6_edit_X6_leaves : GoodIn wsX6_edit wsX6_leaves := goodIn_r _ [16] (by decide +kernel) (by decide +kernel)
set_option maxRecDepth 20000 in
theorem gX6_edit_X6_leaves : GoodIn wsX6_edit (va_wsS RX6 56 yX6_leaves wsX6_leaves) := goodIn_app (goodIn_of _ (by decide +kernel)) ggX6_edit_X6_leaves
set_option maxRecDepth 20000 in
theorem ggX6_edit_X6_own : GoodIn wsX6_edit wsX6_own := goodIn_r _ [20, 9, 10, 11, 12, 3, 13, 14, 15, 16, 21, 22, 23, 24, 25, 26, 27, 28, 29, 30, 31, 32, 56, 57, 58, 59, 60, 61, 62, 63, 64] (by decide +kernel) (by decide +kernel)
set_option maxRecDepth 20000 in
theorem gX6_edit_X6_own : GoodIn wsX6_edit (wsV RX6 150 RX6 yX6_own wsX6_own) := goodIn_app (goodIn_of _ (by decide +kernel)) ggX6_edit_X6_own
set_option maxRecDepth 20000 in
theorem ggX6_edit_X6_allBlocks : GoodIn wsX6_edit wsX6_allBlocks := goodIn_r _ [35, 21, 22, 3, 23, 24, 25, 26, 27, 28, 29] (by decide +kernel) (by decide +kernel)
set_option maxRecDepth 20000 in
theorem gX6_edit_X6_allBlocks : GoodIn wsX6_edit (va_wsS RX6 127 yX6_allBlocks wsX6_allBlocks) := goodIn_app (goodIn_of _ (by decide +kernel)) ggX6_edit_X6_allBlocks
set_option maxRecDepth 20000 in
theorem ggX6_edit_X6_sharedOf : GoodIn wsX6_edit wsX6_sharedOf := goodIn_r _ [39, 10, 11, 12, 3, 13, 9, 14, 15, 16, 21, 22, 23, 24, 25, 26, 27, 28, 29, 40, 41, 42, 43, 30, 31, 32, 44, 45, 46, 47, 48, 49, 50, 51, 1, 2, 4, 52, 53, 54, 55, 56, 57, 58, 59, 60, 61, 62, 63, 64] (by decide +kernel) (by decide +kernel)
set_option maxRecDepth 20000 in
theorem gX6_edit_X6_sharedOf : GoodIn wsX6_edit (wsV RX6 147 RX6 yX6_sharedOf wsX6_sharedOf) := goodIn_app (goodIn_of _ (by decide +kernel)) ggX6_edit_X6_sharedOf
set_option maxRecDepth 20000 in
theorem ggX6_edit_X6_rootLevel : GoodIn wsX6_edit wsX6_rootLevel := goodIn_r _ [26, 27, 28, 3, 29] (by decide +kernel) (by decide +kernel)
set_option maxRecDepth 20000 in
theorem gX6_edit_X6_rootLevel : GoodIn wsX6_edit (va_wsS RX6 43 yX6_rootLevel wsX6_rootLevel) := goodIn_app (goodIn_of _ (by decide +kernel)) ggX6_edit_X6_rootLevel
set_option maxRecDepth 20000 in
theorem ggX6_edit_X6_id : GoodIn wsX6_edit wsX6_id := goodIn_r _ [43, 9, 30, 31, 3, 32, 56, 57, 58, 59, 60, 61, 62, 63, 64] (by decide +kernel) (by decide +kernel)
set_option maxRecDepth 20000 in
theorem gX6_edit_X6_id : GoodIn wsX6_edit (wsV RX6 136 RX6 yX6_id wsX6_id) := goodIn_app (goodIn_of _ (by decide +kernel)) ggX6_edit_X6_id
theorem dX6_edit_0 : decode cX6_edit 0 = .ok (.iload_n 1, 1) := by decide +kernel
theorem dX6_edit_1 : decode cX6_edit 1 = .ok (.iconst 0, 1) := by decide +kernel
theorem dX6_edit_2 : decode cX6_edit 2 = .ok (.iconst 4, 1) := by decide +kernel
theorem dX6_edit_3 : decode cX6_edit 3 = .ok (.invokestatic 24, 3) := by decide +kernel
theorem dX6_edit_6 : decode cX6_edit 6 = .ok (.ifCond .ne 6, 3) := by decide +kernel
theorem dX6_edit_9 : decode cX6_edit 9 = .ok (.bipush (-2), 2) := by decide +kernel
theorem dX6_edit_11 : decode cX6_edit 11 = .ok (.ireturn, 1) := by decide +kernel
theorem dX6_edit_12 : decode cX6_edit 12 = .ok (.aload_n 0, 1) := by decide +kernel
theorem dX6_edit_13 : decode cX6_edit 13 = .ok (.invokevirtual 99, 3) := by decide +kernel
theorem dX6_edit_16 : decode cX6_edit 16 = .ok (.ifCond .eq 6, 3) := by decide +kernel
theorem dX6_edit_19 : decode cX6_edit 19 = .ok (.bipush (-4), 2) := by decide +kernel
theorem dX6_edit_21 : decode cX6_edit 21 = .ok (.ireturn, 1) := by decide +kernel
theorem dX6_edit_22 : decode cX6_edit 22 = .ok (.aload_n 0, 1) := by decide +kernel
theorem dX6_edit_23 : decode cX6_edit 23 = .ok (.bipush 24, 2) := by decide +kernel
theorem dX6_edit_25 : decode cX6_edit 25 = .ok (.invokevirtual 32, 3) := by decide +kernel
theorem dX6_edit_28 : decode cX6_edit 28 = .ok (.invokestatic 56, 3) := by decide +kernel
theorem dX6_edit_31 : decode cX6_edit 31 = .ok (.istore_n 2, 1) := by decide +kernel
theorem dX6_edit_32 : decode cX6_edit 32 = .ok (.iload_n 1, 1) := by decide +kernel
theorem dX6_edit_33 : decode cX6_edit 33 = .ok (.tableswitch 57 0 3 #[31, 38, 43, 48], 31) := by decide +kernel
theorem dX6_edit_64 : decode cX6_edit 64 = .ok (.aload_n 0, 1) := by decide +kernel
theorem dX6_edit_65 : decode cX6_edit 65 = .ok (.bipush 24, 2) := by decide +kernel
theorem dX6_edit_67 : decode cX6_edit 67 = .ok (.invokevirtual 32, 3) := by decide +kernel
theorem dX6_edit_70 : decode cX6_edit 70 = .ok (.ireturn, 1) := by decide +kernel
theorem dX6_edit_71 : decode cX6_edit 71 = .ok (.aload_n 0, 1) := by decide +kernel
theorem dX6_edit_72 : decode cX6_edit 72 = .ok (.invokevirtual 150, 3) := by decide +kernel
theorem dX6_edit_75 : decode cX6_edit 75 = .ok (.ireturn, 1) := by decide +kernel
theorem dX6_edit_76 : decode cX6_edit 76 = .ok (.iload_n 2, 1) := by decide +kernel
theorem dX6_edit_77 : decode cX6_edit 77 = .ok (.invokestatic 127, 3) := by decide +kernel
theorem dX6_edit_80 : decode cX6_edit 80 = .ok (.ireturn, 1) := by decide +kernel
theorem dX6_edit_81 : decode cX6_edit 81 = .ok (.aload_n 0, 1) := by decide +kernel
theorem dX6_edit_82 : decode cX6_edit 82 = .ok (.bipush 24, 2) := by decide +kernel
theorem dX6_edit_84 : decode cX6_edit 84 = .ok (.bipush (-5), 2) := by decide +kernel
theorem dX6_edit_86 : decode cX6_edit 86 = .ok (.invokevirtual 147, 3) := by decide +kernel
theorem dX6_edit_89 : decode cX6_edit 89 = .ok (.ireturn, 1) := by decide +kernel
theorem dX6_edit_90 : decode cX6_edit 90 = .ok (.iload_n 2, 1) := by decide +kernel
theorem dX6_edit_91 : decode cX6_edit 91 = .ok (.ifCond .ne 8, 3) := by decide +kernel
theorem dX6_edit_94 : decode cX6_edit 94 = .ok (.bipush (-5), 2) := by decide +kernel
theorem dX6_edit_96 : decode cX6_edit 96 = .ok (.goto 14, 3) := by decide +kernel
theorem dX6_edit_99 : decode cX6_edit 99 = .ok (.aload_n 0, 1) := by decide +kernel
theorem dX6_edit_100 : decode cX6_edit 100 = .ok (.bipush 24, 2) := by decide +kernel
theorem dX6_edit_102 : decode cX6_edit 102 = .ok (.iload_n 2, 1) := by decide +kernel
theorem dX6_edit_103 : decode cX6_edit 103 = .ok (.invokestatic 43, 3) := by decide +kernel
theorem dX6_edit_106 : decode cX6_edit 106 = .ok (.iconst 0, 1) := by decide +kernel
theorem dX6_edit_107 : decode cX6_edit 107 = .ok (.invokevirtual 136, 3) := by decide +kernel
theorem dX6_edit_110 : decode cX6_edit 110 = .ok (.ireturn, 1) := by decide +kernel
set_option maxRecDepth 20000 in
theorem ggX6_used_X6_noEdit : GoodIn wsX6_used wsX6_noEdit := goodIn_r _ [6, 1, 45, 46, 47, 48, 49, 50, 51, 52, 53] (by decide +kernel) (by decide +kernel)
set_option maxRecDepth 20000 in
theorem gX6_used_X6_noEdit : GoodIn wsX6_used (wsV RX6 99 RX6 yX6_noEdit wsX6_noEdit) := goodIn_app (goodIn_of _ (by decide +kernel)) ggX6_used_X6_noEdit
set_option maxRecDepth 20000 in
theorem ggX6_used_X6_has : GoodIn wsX6_used wsX6_has := goodIn_r _ [10, 11, 12, 13, 5, 14, 1, 15, 16, 17, 18, 19, 20, 21, 22, 23, 24, 25, 26, 27, 28, 29, 30, 31, 32, 33, 45, 46, 47, 48, 49, 50, 51, 52, 53] (by decide +kernel) (by decide +kernel)
set_option maxRecDepth 20000 in
theorem gX6_used_X6_has : GoodIn wsX6_used (wsV RX6 143 RX6 yX6_has wsX6_has) := goodIn_app (goodIn_of _ (by decide +kernel)) ggX6_used_X6_has
set_option maxRecDepth 20000 in
theorem ggX6_used_X6_isOfVector : GoodIn wsX6_used wsX6_isOfVector := goodIn_r _ [37, 1, 38, 39, 40, 5, 41, 42, 43, 44, 7, 8, 9, 10, 11, 12, 13, 14, 15, 16, 17, 18, 19, 20, 21, 22, 23, 24, 25, 26, 27, 28, 29, 30, 31, 32, 33, 45, 46, 47, 48, 49, 50, 51, 52, 53] (by decide +kernel) (by decide +kernel)
set_option maxRecDepth 20000 in
theorem gX6_used_X6_isOfVector : GoodIn wsX6_used (wsV RX6 140 RX6 yX6_isOfVector wsX6_isOfVector) := goodIn_app (goodIn_of _ (by decide +kernel)) ggX6_used_X6_isOfVector
theorem dX6_used_0 : decode cX6_used 0 = .ok (.iconst 0, 1) := by decide +kernel
theorem dX6_used_1 : decode cX6_used 1 = .ok (.istore_n 1, 1) := by decide +kernel
theorem dX6_used_2 : decode cX6_used 2 = .ok (.iconst 0, 1) := by decide +kernel
theorem dX6_used_3 : decode cX6_used 3 = .ok (.istore_n 2, 1) := by decide +kernel
theorem dX6_used_4 : decode cX6_used 4 = .ok (.iload_n 2, 1) := by decide +kernel
theorem dX6_used_5 : decode cX6_used 5 = .ok (.aload_n 0, 1) := by decide +kernel
theorem dX6_used_6 : decode cX6_used 6 = .ok (.getfield 7, 3) := by decide +kernel
theorem dX6_used_9 : decode cX6_used 9 = .ok (.sipush 10172, 3) := by decide +kernel
theorem dX6_used_12 : decode cX6_used 12 = .ok (.iaload, 1) := by decide +kernel
theorem dX6_used_13 : decode cX6_used 13 = .ok (.if_icmp .ge 42, 3) := by decide +kernel
theorem dX6_used_16 : decode cX6_used 16 = .ok (.iload_n 1, 1) := by decide +kernel
theorem dX6_used_17 : decode cX6_used 17 = .ok (.aload_n 0, 1) := by decide +kernel
theorem dX6_used_18 : decode cX6_used 18 = .ok (.invokevirtual 99, 3) := by decide +kernel
theorem dX6_used_21 : decode cX6_used 21 = .ok (.ifCond .ne 13, 3) := by decide +kernel
theorem dX6_used_24 : decode cX6_used 24 = .ok (.aload_n 0, 1) := by decide +kernel
theorem dX6_used_25 : decode cX6_used 25 = .ok (.bipush 24, 2) := by decide +kernel
theorem dX6_used_27 : decode cX6_used 27 = .ok (.iload_n 2, 1) := by decide +kernel
theorem dX6_used_28 : decode cX6_used 28 = .ok (.invokevirtual 143, 3) := by decide +kernel
theorem dX6_used_31 : decode cX6_used 31 = .ok (.ifCond .ne 11, 3) := by decide +kernel
theorem dX6_used_34 : decode cX6_used 34 = .ok (.aload_n 0, 1) := by decide +kernel
theorem dX6_used_35 : decode cX6_used 35 = .ok (.iload_n 2, 1) := by decide +kernel
theorem dX6_used_36 : decode cX6_used 36 = .ok (.invokevirtual 140, 3) := by decide +kernel
theorem dX6_used_39 : decode cX6_used 39 = .ok (.ifCond .eq 7, 3) := by decide +kernel
theorem dX6_used_42 : decode cX6_used 42 = .ok (.iconst 1, 1) := by decide +kernel
theorem dX6_used_43 : decode cX6_used 43 = .ok (.goto 4, 3) := by decide +kernel
theorem dX6_used_46 : decode cX6_used 46 = .ok (.iconst 0, 1) := by decide +kernel
theorem dX6_used_47 : decode cX6_used 47 = .ok (.iadd, 1) := by decide +kernel
theorem dX6_used_48 : decode cX6_used 48 = .ok (.istore_n 1, 1) := by decide +kernel
theorem dX6_used_49 : decode cX6_used 49 = .ok (.iinc 2 1, 3) := by decide +kernel
theorem dX6_used_52 : decode cX6_used 52 = .ok (.goto (-48), 3) := by decide +kernel
theorem dX6_used_55 : decode cX6_used 55 = .ok (.iload_n 1, 1) := by decide +kernel
theorem dX6_used_56 : decode cX6_used 56 = .ok (.ireturn, 1) := by decide +kernel
set_option maxRecDepth 20000 in
theorem ggX6_lengths_X6_no : GoodIn wsX6_lengths wsX6_no := goodIn_r _ [6, 1, 7, 8, 5, 9, 22, 23, 24, 25, 26, 27, 28, 29, 30] (by decide +kernel) (by decide +kernel)
set_option maxRecDepth 20000 in
theorem gX6_lengths_X6_no : GoodIn wsX6_lengths (wsV RX6 67 RX6 yX6_no wsX6_no) := goodIn_app (goodIn_of _ (by decide +kernel)) ggX6_lengths_X6_no
set_option maxRecDepth 20000 in
theorem ggX6_lengths_X6_length : GoodIn wsX6_lengths wsX6_length := goodIn_r _ [13, 1, 14, 15, 16, 5, 17, 18, 19, 20, 21, 22, 23, 24, 25, 26, 27, 28, 29, 30] (by decide +kernel) (by decide +kernel)
set_option maxRecDepth 20000 in
theorem gX6_lengths_X6_length : GoodIn wsX6_lengths (wsV RX6 70 RX6 yX6_length wsX6_length) := goodIn_app (goodIn_of _ (by decide +kernel)) ggX6_lengths_X6_length
theorem dX6_lengths_0 : decode cX6_lengths 0 = .ok (.iconst 0, 1) := by decide +kernel
theorem dX6_lengths_1 : decode cX6_lengths 1 = .ok (.istore_n 1, 1) := by decide +kernel
theorem dX6_lengths_2 : decode cX6_lengths 2 = .ok (.iconst 0, 1) := by decide +kernel
theorem dX6_lengths_3 : decode cX6_lengths 3 = .ok (.istore_n 2, 1) := by decide +kernel
theorem dX6_lengths_4 : decode cX6_lengths 4 = .ok (.iload_n 2, 1) := by decide +kernel
theorem dX6_lengths_5 : decode cX6_lengths 5 = .ok (.aload_n 0, 1) := by decide +kernel
theorem dX6_lengths_6 : decode cX6_lengths 6 = .ok (.getfield 7, 3) := by decide +kernel
theorem dX6_lengths_9 : decode cX6_lengths 9 = .ok (.sipush 10171, 3) := by decide +kernel
theorem dX6_lengths_12 : decode cX6_lengths 12 = .ok (.iaload, 1) := by decide +kernel
theorem dX6_lengths_13 : decode cX6_lengths 13 = .ok (.if_icmp .ge 29, 3) := by decide +kernel
theorem dX6_lengths_16 : decode cX6_lengths 16 = .ok (.iload_n 1, 1) := by decide +kernel
theorem dX6_lengths_17 : decode cX6_lengths 17 = .ok (.aload_n 0, 1) := by decide +kernel
theorem dX6_lengths_18 : decode cX6_lengths 18 = .ok (.iload_n 2, 1) := by decide +kernel
theorem dX6_lengths_19 : decode cX6_lengths 19 = .ok (.invokevirtual 67, 3) := by decide +kernel
theorem dX6_lengths_22 : decode cX6_lengths 22 = .ok (.ifCond .eq 7, 3) := by decide +kernel
theorem dX6_lengths_25 : decode cX6_lengths 25 = .ok (.iconst 0, 1) := by decide +kernel
theorem dX6_lengths_26 : decode cX6_lengths 26 = .ok (.goto 8, 3) := by decide +kernel
theorem dX6_lengths_29 : decode cX6_lengths 29 = .ok (.aload_n 0, 1) := by decide +kernel
theorem dX6_lengths_30 : decode cX6_lengths 30 = .ok (.iload_n 2, 1) := by decide +kernel
theorem dX6_lengths_31 : decode cX6_lengths 31 = .ok (.invokevirtual 70, 3) := by decide +kernel
theorem dX6_lengths_34 : decode cX6_lengths 34 = .ok (.iadd, 1) := by decide +kernel
theorem dX6_lengths_35 : decode cX6_lengths 35 = .ok (.istore_n 1, 1) := by decide +kernel
theorem dX6_lengths_36 : decode cX6_lengths 36 = .ok (.iinc 2 1, 3) := by decide +kernel
theorem dX6_lengths_39 : decode cX6_lengths 39 = .ok (.goto (-35), 3) := by decide +kernel
theorem dX6_lengths_42 : decode cX6_lengths 42 = .ok (.iload_n 1, 1) := by decide +kernel
theorem dX6_lengths_43 : decode cX6_lengths 43 = .ok (.ireturn, 1) := by decide +kernel
set_option maxRecDepth 20000 in
theorem ggX6_count_X6_there : GoodIn wsX6_count wsX6_there := goodIn_r _ [8, 1, 67, 68, 69, 70, 71, 72, 73, 74, 75] (by decide +kernel) (by decide +kernel)
set_option maxRecDepth 20000 in
theorem gX6_count_X6_there : GoodIn wsX6_count (wsV RX6 95 RX6 yX6_there wsX6_there) := goodIn_app (goodIn_of _ (by decide +kernel)) ggX6_count_X6_there
set_option maxRecDepth 20000 in
theorem ggX6_count_X6_used : GoodIn wsX6_count wsX6_used := goodIn_r _ [12, 1, 13, 14, 15, 7, 16, 17, 18, 19, 20, 21, 22, 23, 24, 25, 26, 27, 28, 29, 30, 31, 32, 33, 34, 35, 36, 37, 38, 39, 40, 41, 42, 43, 44, 45, 46, 47, 48, 49, 50, 51, 52, 53, 54, 67, 68, 69, 70, 71, 72, 73, 74, 75] (by decide +kernel) (by decide +kernel)
set_option maxRecDepth 20000 in
theorem gX6_count_X6_used : GoodIn wsX6_count (wsV RX6 153 RX6 yX6_used wsX6_used) := goodIn_app (goodIn_of _ (by decide +kernel)) ggX6_count_X6_used
set_option maxRecDepth 20000 in
theorem ggX6_count_X6_lengths : GoodIn wsX6_count wsX6_lengths := goodIn_r _ [58, 1, 48, 49, 50, 7, 51, 52, 53, 54, 59, 60, 61, 62, 63, 64, 65, 66, 21, 22, 23, 24, 67, 68, 69, 70, 71, 72, 73, 74, 75] (by decide +kernel) (by decide +kernel)
set_option maxRecDepth 20000 in
theorem gX6_count_X6_lengths : GoodIn wsX6_count (wsV RX6 156 RX6 yX6_lengths wsX6_lengths) := goodIn_app (goodIn_of _ (by decide +kernel)) ggX6_count_X6_lengths
theorem dX6_count_0 : decode cX6_count 0 = .ok (.iload_n 1, 1) := by decide +kernel
theorem dX6_count_1 : decode cX6_count 1 = .ok (.tableswitch 117 0 8 #[51, 60, 65, 74, 79, 93, 102, 107, 112], 51) := by decide +kernel
theorem dX6_count_52 : decode cX6_count 52 = .ok (.aload_n 0, 1) := by decide +kernel
theorem dX6_count_53 : decode cX6_count 53 = .ok (.getfield 7, 3) := by decide +kernel
theorem dX6_count_56 : decode cX6_count 56 = .ok (.sipush 10171, 3) := by decide +kernel
theorem dX6_count_59 : decode cX6_count 59 = .ok (.iaload, 1) := by decide +kernel
theorem dX6_count_60 : decode cX6_count 60 = .ok (.ireturn, 1) := by decide +kernel
theorem dX6_count_61 : decode cX6_count 61 = .ok (.aload_n 0, 1) := by decide +kernel
theorem dX6_count_62 : decode cX6_count 62 = .ok (.invokevirtual 95, 3) := by decide +kernel
theorem dX6_count_65 : decode cX6_count 65 = .ok (.ireturn, 1) := by decide +kernel
theorem dX6_count_66 : decode cX6_count 66 = .ok (.aload_n 0, 1) := by decide +kernel
theorem dX6_count_67 : decode cX6_count 67 = .ok (.getfield 7, 3) := by decide +kernel
theorem dX6_count_70 : decode cX6_count 70 = .ok (.sipush 10172, 3) := by decide +kernel
theorem dX6_count_73 : decode cX6_count 73 = .ok (.iaload, 1) := by decide +kernel
theorem dX6_count_74 : decode cX6_count 74 = .ok (.ireturn, 1) := by decide +kernel
theorem dX6_count_75 : decode cX6_count 75 = .ok (.aload_n 0, 1) := by decide +kernel
theorem dX6_count_76 : decode cX6_count 76 = .ok (.invokevirtual 153, 3) := by decide +kernel
theorem dX6_count_79 : decode cX6_count 79 = .ok (.ireturn, 1) := by decide +kernel
theorem dX6_count_80 : decode cX6_count 80 = .ok (.aload_n 0, 1) := by decide +kernel
theorem dX6_count_81 : decode cX6_count 81 = .ok (.getfield 7, 3) := by decide +kernel
theorem dX6_count_84 : decode cX6_count 84 = .ok (.sipush 10172, 3) := by decide +kernel
theorem dX6_count_87 : decode cX6_count 87 = .ok (.iaload, 1) := by decide +kernel
theorem dX6_count_88 : decode cX6_count 88 = .ok (.aload_n 0, 1) := by decide +kernel
theorem dX6_count_89 : decode cX6_count 89 = .ok (.invokevirtual 153, 3) := by decide +kernel
theorem dX6_count_92 : decode cX6_count 92 = .ok (.isub, 1) := by decide +kernel
theorem dX6_count_93 : decode cX6_count 93 = .ok (.ireturn, 1) := by decide +kernel
theorem dX6_count_94 : decode cX6_count 94 = .ok (.aload_n 0, 1) := by decide +kernel
theorem dX6_count_95 : decode cX6_count 95 = .ok (.getfield 7, 3) := by decide +kernel
theorem dX6_count_98 : decode cX6_count 98 = .ok (.sipush 10173, 3) := by decide +kernel
theorem dX6_count_101 : decode cX6_count 101 = .ok (.iaload, 1) := by decide +kernel
theorem dX6_count_102 : decode cX6_count 102 = .ok (.ireturn, 1) := by decide +kernel
theorem dX6_count_103 : decode cX6_count 103 = .ok (.aload_n 0, 1) := by decide +kernel
theorem dX6_count_104 : decode cX6_count 104 = .ok (.invokevirtual 156, 3) := by decide +kernel
theorem dX6_count_107 : decode cX6_count 107 = .ok (.ireturn, 1) := by decide +kernel
theorem dX6_count_108 : decode cX6_count 108 = .ok (.aload_n 0, 1) := by decide +kernel
theorem dX6_count_109 : decode cX6_count 109 = .ok (.getfield 39, 3) := by decide +kernel
theorem dX6_count_112 : decode cX6_count 112 = .ok (.ireturn, 1) := by decide +kernel
theorem dX6_count_113 : decode cX6_count 113 = .ok (.aload_n 0, 1) := by decide +kernel
theorem dX6_count_114 : decode cX6_count 114 = .ok (.getfield 102, 3) := by decide +kernel
theorem dX6_count_117 : decode cX6_count 117 = .ok (.ireturn, 1) := by decide +kernel
theorem dX6_count_118 : decode cX6_count 118 = .ok (.bipush (-2), 2) := by decide +kernel
theorem dX6_count_120 : decode cX6_count 120 = .ok (.ireturn, 1) := by decide +kernel
