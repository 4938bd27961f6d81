set_option maxRecDepth 20000 in
theorem ggX5_init_X2_init : GoodIn wsX5_init wsX2_init := goodIn_r _ [27, 28, 2, 3, 29, 30, 31, 32, 33, 34, 35, 82, 83, 84, 85, 86] (by decide +kernel) (by decide +kernel)
set_option maxRecDepth 20000 in
theorem gX5_init_X2_init : GoodIn wsX5_init (wsX2_init) := ggX5_init_X2_init
set_option maxRecDepth 20000 in
theorem ggX5_init_X0_init : GoodIn wsX5_init wsX0_init := goodIn_r _ [38, 39, 2, 3, 40, 41, 5, 6, 42, 43, 26, 27, 28, 29, 30, 31, 32, 33, 34, 35, 93, 94, 82, 83, 84, 85, 86] (by decide +kernel) (by decide +kernel)
set_option maxRecDepth 20000 in
theorem gX5_init_X0_init : GoodIn wsX5_init (wsX0_init) := ggX5_init_X0_init
set_option maxRecDepth 20000 in
theorem ggX5_init_X3_init : GoodIn wsX5_init wsX3_init := goodIn_r _ [46, 47, 2, 3, 48, 49, 50, 95, 96] (by decide +kernel) (by decide +kernel)
set_option maxRecDepth 20000 in
theorem gX5_init_X3_init : GoodIn wsX5_init (wsX3_init) := ggX5_init_X3_init
set_option maxRecDepth 20000 in
theorem ggX5_init_X1_init : GoodIn wsX5_init wsX1_init := goodIn_r _ [53, 54, 2, 3, 55, 56, 57, 58, 59, 60, 61, 62, 63, 64, 65, 66, 67, 68, 69, 97, 98, 99] (by decide +kernel) (by decide +kernel)
set_option maxRecDepth 20000 in
theorem gX5_init_X1_init : GoodIn wsX5_init (wsX1_init) := ggX5_init_X1_init
set_option maxRecDepth 20000 in
theorem ggX5_init_X4_init : GoodIn wsX5_init wsX4_init := goodIn_r _ [72, 73, 2, 3, 74, 75, 76, 77, 100, 101, 102, 103] (by decide +kernel) (by decide +kernel)
set_option maxRecDepth 20000 in
theorem gX5_init_X4_init : GoodIn wsX5_init (wsX4_init) := ggX5_init_X4_init
set_option maxRecDepth 20000 in
theorem ggX5_init_X2_addView : GoodIn wsX5_init wsX2_addView := goodIn_r _ [81, 31, 30, 82, 83, 84, 85, 86] (by decide +kernel) (by decide +kernel)
set_option maxRecDepth 20000 in
theorem gX5_init_X2_addView : GoodIn wsX5_init (wsV RX5 51 RX2 yX2_addView wsX2_addView) := goodIn_app (goodIn_of _ (by decide +kernel)) ggX5_init_X2_addView
theorem dX5_init_0 : decode cX5_init 0 = .ok (.aload_n 0, 1) := by decide +kernel
theorem dX5_init_1 : decode cX5_init 1 = .ok (.invokespecial 1, 3) := by decide +kernel
theorem dX5_init_4 : decode cX5_init 4 = .ok (.aload_n 0, 1) := by decide +kernel
theorem dX5_init_5 : decode cX5_init 5 = .ok (.new 7, 3) := by decide +kernel
theorem dX5_init_8 : decode cX5_init 8 = .ok (.dup, 1) := by decide +kernel
theorem dX5_init_9 : decode cX5_init 9 = .ok (.invokespecial 9, 3) := by decide +kernel
theorem dX5_init_12 : decode cX5_init 12 = .ok (.putfield 10, 3) := by decide +kernel
theorem dX5_init_15 : decode cX5_init 15 = .ok (.aload_n 0, 1) := by decide +kernel
theorem dX5_init_16 : decode cX5_init 16 = .ok (.new 7, 3) := by decide +kernel
theorem dX5_init_19 : decode cX5_init 19 = .ok (.dup, 1) := by decide +kernel
theorem dX5_init_20 : decode cX5_init 20 = .ok (.invokespecial 9, 3) := by decide +kernel
theorem dX5_init_23 : decode cX5_init 23 = .ok (.putfield 16, 3) := by decide +kernel
theorem dX5_init_26 : decode cX5_init 26 = .ok (.aload_n 0, 1) := by decide +kernel
theorem dX5_init_27 : decode cX5_init 27 = .ok (.iconst 0, 1) := by decide +kernel
theorem dX5_init_28 : decode cX5_init 28 = .ok (.putfield 19, 3) := by decide +kernel
theorem dX5_init_31 : decode cX5_init 31 = .ok (.aload_n 0, 1) := by decide +kernel
theorem dX5_init_32 : decode cX5_init 32 = .ok (.new 23, 3) := by decide +kernel
theorem dX5_init_35 : decode cX5_init 35 = .ok (.dup, 1) := by decide +kernel
theorem dX5_init_36 : decode cX5_init 36 = .ok (.invokespecial 25, 3) := by decide +kernel
theorem dX5_init_39 : decode cX5_init 39 = .ok (.putfield 26, 3) := by decide +kernel
theorem dX5_init_42 : decode cX5_init 42 = .ok (.aload_n 0, 1) := by decide +kernel
theorem dX5_init_43 : decode cX5_init 43 = .ok (.new 30, 3) := by decide +kernel
theorem dX5_init_46 : decode cX5_init 46 = .ok (.dup, 1) := by decide +kernel
theorem dX5_init_47 : decode cX5_init 47 = .ok (.invokespecial 32, 3) := by decide +kernel
theorem dX5_init_50 : decode cX5_init 50 = .ok (.putfield 33, 3) := by decide +kernel
theorem dX5_init_53 : decode cX5_init 53 = .ok (.aload_n 0, 1) := by decide +kernel
theorem dX5_init_54 : decode cX5_init 54 = .ok (.new 37, 3) := by decide +kernel
theorem dX5_init_57 : decode cX5_init 57 = .ok (.dup, 1) := by decide +kernel
theorem dX5_init_58 : decode cX5_init 58 = .ok (.sipush 300, 3) := by decide +kernel
theorem dX5_init_61 : decode cX5_init 61 = .ok (.invokespecial 39, 3) := by decide +kernel
theorem dX5_init_64 : decode cX5_init 64 = .ok (.putfield 42, 3) := by decide +kernel
theorem dX5_init_67 : decode cX5_init 67 = .ok (.aload_n 0, 1) := by decide +kernel
theorem dX5_init_68 : decode cX5_init 68 = .ok (.getfield 10, 3) := by decide +kernel
theorem dX5_init_71 : decode cX5_init 71 = .ok (.new 46, 3) := by decide +kernel
theorem dX5_init_74 : decode cX5_init 74 = .ok (.dup, 1) := by decide +kernel
theorem dX5_init_75 : decode cX5_init 75 = .ok (.new 37, 3) := by decide +kernel
theorem dX5_init_78 : decode cX5_init 78 = .ok (.dup, 1) := by decide +kernel
theorem dX5_init_79 : decode cX5_init 79 = .ok (.iconst 0, 1) := by decide +kernel
theorem dX5_init_80 : decode cX5_init 80 = .ok (.invokespecial 39, 3) := by decide +kernel
theorem dX5_init_83 : decode cX5_init 83 = .ok (.iconst 0, 1) := by decide +kernel
theorem dX5_init_84 : decode cX5_init 84 = .ok (.iconst 0, 1) := by decide +kernel
theorem dX5_init_85 : decode cX5_init 85 = .ok (.iconst 0, 1) := by decide +kernel
theorem dX5_init_86 : decode cX5_init 86 = .ok (.invokespecial 48, 3) := by decide +kernel
theorem dX5_init_89 : decode cX5_init 89 = .ok (.invokevirtual 51, 3) := by decide +kernel
theorem dX5_init_92 : decode cX5_init 92 = .ok (.pop, 1) := by decide +kernel
theorem dX5_init_93 : decode cX5_init 93 = .ok (.return_, 1) := by decide +kernel
set_option maxRecDepth 20000 in
theorem ggX5_push_X2_viewOf : GoodIn wsX5_push wsX2_viewOf := goodIn_r _ [14, 15, 139, 140, 141, 142, 143] (by decide +kernel) (by decide +kernel)
set_option maxRecDepth 20000 in
theorem gX5_push_X2_viewOf : GoodIn wsX5_push (wsV RX5 55 RX2 yX2_viewOf wsX2_viewOf) := goodIn_app (goodIn_of _ (by decide +kernel)) ggX5_push_X2_viewOf
set_option maxRecDepth 20000 in
theorem ggX5_push_X5_isValue : GoodIn wsX5_push wsX5_isValue := goodIn_r _ [19] (by decide +kernel) (by decide +kernel)
set_option maxRecDepth 20000 in
theorem gX5_push_X5_isValue : GoodIn wsX5_push (va_wsS RX5 59 yX5_isValue wsX5_isValue) := goodIn_app (goodIn_of _ (by decide +kernel)) ggX5_push_X5_isValue
set_option maxRecDepth 20000 in
theorem ggX5_push_X2_isFull : GoodIn wsX5_push wsX2_isFull := goodIn_r _ [23, 24, 139, 140, 141, 142, 143] (by decide +kernel) (by decide +kernel)
set_option maxRecDepth 20000 in
theorem gX5_push_X2_isFull : GoodIn wsX5_push (wsV RX5 63 RX2 yX2_isFull wsX2_isFull) := goodIn_app (goodIn_of _ (by decide +kernel)) ggX5_push_X2_isFull
set_option maxRecDepth 20000 in
theorem ggX5_push_X4_end : GoodIn wsX5_push wsX4_end := goodIn_r _ [28, 29, 30, 135, 136, 137, 138] (by decide +kernel) (by decide +kernel)
set_option maxRecDepth 20000 in
theorem gX5_push_X4_end : GoodIn wsX5_push (wsV RX5 67 RX4 yX4_end wsX4_end) := goodIn_app (goodIn_of _ (by decide +kernel)) ggX5_push_X4_end
set_option maxRecDepth 20000 in
theorem ggX5_push_X0_remember : GoodIn wsX5_push wsX0_remember := goodIn_r _ [35, 36, 37, 38, 39, 34, 40, 41, 42, 43, 44, 45, 46, 47, 48, 13, 49, 15, 24, 50, 51, 52, 144, 145, 139, 140, 141, 142, 143] (by decide +kernel) (by decide +kernel)
set_option maxRecDepth 20000 in
theorem gX5_push_X0_remember : GoodIn wsX5_push (wsV RX5 71 RX0 yX0_remember wsX0_remember) := goodIn_app (goodIn_of _ (by decide +kernel)) ggX5_push_X0_remember
set_option maxRecDepth 20000 in
theorem ggX5_push_X2_rowWith : GoodIn wsX5_push wsX2_rowWith := goodIn_r _ [56, 50, 57, 58, 59, 60, 61, 62, 63, 64, 65, 66, 67, 68, 69, 70, 71, 72, 73, 74, 75, 76, 77, 78, 79, 80, 81, 82, 83, 84, 85, 86, 87, 88, 89, 90, 91, 92, 93, 94, 95, 96, 97, 98, 99, 100, 101, 102, 103, 104, 105, 106, 18, 107, 108, 109, 110, 111, 112, 113, 114, 115, 116, 117, 118, 139, 140, 141, 142, 143, 146, 147, 148] (by decide +kernel) (by decide +kernel)
set_option maxRecDepth 20000 in
theorem gX5_push_X2_rowWith : GoodIn wsX5_push (wsV RX5 78 RX2 yX2_rowWith wsX2_rowWith) := goodIn_app (goodIn_of _ (by decide +kernel)) ggX5_push_X2_rowWith
set_option maxRecDepth 20000 in
theorem ggX5_push_X4_init : GoodIn wsX5_push wsX4_init := goodIn_r _ [121, 122, 70, 71, 123, 124, 29, 30, 135, 136, 137, 138] (by decide +kernel) (by decide +kernel)
set_option maxRecDepth 20000 in
theorem gX5_push_X4_init : GoodIn wsX5_push (wsX4_init) := ggX5_push_X4_init
set_option maxRecDepth 20000 in
theorem ggX5_push_X2_addView : GoodIn wsX5_push wsX2_addView := goodIn_r _ [128, 24, 15, 139, 140, 141, 142, 143] (by decide +kernel) (by decide +kernel)
set_option maxRecDepth 20000 in
theorem gX5_push_X2_addView : GoodIn wsX5_push (wsV RX5 51 RX2 yX2_addView wsX2_addView) := goodIn_app (goodIn_of _ (by decide +kernel)) ggX5_push_X2_addView
theorem dX5_push_0 : decode cX5_push 0 = .ok (.aload_n 0, 1) := by decide +kernel
theorem dX5_push_1 : decode cX5_push 1 = .ok (.getfield 10, 3) := by decide +kernel
theorem dX5_push_4 : decode cX5_push 4 = .ok (.iload_n 1, 1) := by decide +kernel
theorem dX5_push_5 : decode cX5_push 5 = .ok (.invokevirtual 55, 3) := by decide +kernel
theorem dX5_push_8 : decode cX5_push 8 = .ok (.astore_n 3, 1) := by decide +kernel
theorem dX5_push_9 : decode cX5_push 9 = .ok (.aload_n 3, 1) := by decide +kernel
theorem dX5_push_10 : decode cX5_push 10 = .ok (.ifnonnull 5, 3) := by decide +kernel
theorem dX5_push_13 : decode cX5_push 13 = .ok (.iconst (-1), 1) := by decide +kernel
theorem dX5_push_14 : decode cX5_push 14 = .ok (.ireturn, 1) := by decide +kernel
theorem dX5_push_15 : decode cX5_push 15 = .ok (.iload_n 2, 1) := by decide +kernel
theorem dX5_push_16 : decode cX5_push 16 = .ok (.invokestatic 59, 3) := by decide +kernel
theorem dX5_push_19 : decode cX5_push 19 = .ok (.ifCond .ne 6, 3) := by decide +kernel
theorem dX5_push_22 : decode cX5_push 22 = .ok (.bipush (-2), 2) := by decide +kernel
theorem dX5_push_24 : decode cX5_push 24 = .ok (.ireturn, 1) := by decide +kernel
theorem dX5_push_25 : decode cX5_push 25 = .ok (.aload_n 0, 1) := by decide +kernel
theorem dX5_push_26 : decode cX5_push 26 = .ok (.getfield 10, 3) := by decide +kernel
theorem dX5_push_29 : decode cX5_push 29 = .ok (.invokevirtual 63, 3) := by decide +kernel
theorem dX5_push_32 : decode cX5_push 32 = .ok (.ifCond .ne 13, 3) := by decide +kernel
theorem dX5_push_35 : decode cX5_push 35 = .ok (.aload_n 3, 1) := by decide +kernel
theorem dX5_push_36 : decode cX5_push 36 = .ok (.invokevirtual 67, 3) := by decide +kernel
theorem dX5_push_39 : decode cX5_push 39 = .ok (.sipush 300, 3) := by decide +kernel
theorem dX5_push_42 : decode cX5_push 42 = .ok (.if_icmp .lt 6, 3) := by decide +kernel
theorem dX5_push_45 : decode cX5_push 45 = .ok (.bipush (-3), 2) := by decide +kernel
theorem dX5_push_47 : decode cX5_push 47 = .ok (.ireturn, 1) := by decide +kernel
theorem dX5_push_48 : decode cX5_push 48 = .ok (.aload_n 0, 1) := by decide +kernel
theorem dX5_push_49 : decode cX5_push 49 = .ok (.getfield 26, 3) := by decide +kernel
theorem dX5_push_52 : decode cX5_push 52 = .ok (.aload_n 0, 1) := by decide +kernel
theorem dX5_push_53 : decode cX5_push 53 = .ok (.getfield 10, 3) := by decide +kernel
theorem dX5_push_56 : decode cX5_push 56 = .ok (.invokevirtual 71, 3) := by decide +kernel
theorem dX5_push_59 : decode cX5_push 59 = .ok (.aload_n 0, 1) := by decide +kernel
theorem dX5_push_60 : decode cX5_push 60 = .ok (.getfield 10, 3) := by decide +kernel
theorem dX5_push_63 : decode cX5_push 63 = .ok (.aload_n 3, 1) := by decide +kernel
theorem dX5_push_64 : decode cX5_push 64 = .ok (.getfield 75, 3) := by decide +kernel
theorem dX5_push_67 : decode cX5_push 67 = .ok (.aload_n 3, 1) := by decide +kernel
theorem dX5_push_68 : decode cX5_push 68 = .ok (.invokevirtual 67, 3) := by decide +kernel
theorem dX5_push_71 : decode cX5_push 71 = .ok (.iload_n 2, 1) := by decide +kernel
theorem dX5_push_72 : decode cX5_push 72 = .ok (.invokevirtual 78, 3) := by decide +kernel
theorem dX5_push_75 : decode cX5_push 75 = .ok (.astore 4, 2) := by decide +kernel
theorem dX5_push_77 : decode cX5_push 77 = .ok (.aload_n 0, 1) := by decide +kernel
theorem dX5_push_78 : decode cX5_push 78 = .ok (.getfield 10, 3) := by decide +kernel
theorem dX5_push_81 : decode cX5_push 81 = .ok (.new 46, 3) := by decide +kernel
theorem dX5_push_84 : decode cX5_push 84 = .ok (.dup, 1) := by decide +kernel
theorem dX5_push_85 : decode cX5_push 85 = .ok (.aload 4, 2) := by decide +kernel
theorem dX5_push_87 : decode cX5_push 87 = .ok (.aload_n 3, 1) := by decide +kernel
theorem dX5_push_88 : decode cX5_push 88 = .ok (.getfield 82, 3) := by decide +kernel
theorem dX5_push_91 : decode cX5_push 91 = .ok (.aload_n 3, 1) := by decide +kernel
theorem dX5_push_92 : decode cX5_push 92 = .ok (.getfield 85, 3) := by decide +kernel
theorem dX5_push_95 : decode cX5_push 95 = .ok (.aload_n 3, 1) := by decide +kernel
theorem dX5_push_96 : decode cX5_push 96 = .ok (.getfield 89, 3) := by decide +kernel
theorem dX5_push_99 : decode cX5_push 99 = .ok (.iconst 1, 1) := by decide +kernel
theorem dX5_push_100 : decode cX5_push 100 = .ok (.iadd, 1) := by decide +kernel
theorem dX5_push_101 : decode cX5_push 101 = .ok (.invokespecial 48, 3) := by decide +kernel
theorem dX5_push_104 : decode cX5_push 104 = .ok (.invokevirtual 51, 3) := by decide +kernel
theorem dX5_push_107 : decode cX5_push 107 = .ok (.ireturn, 1) := by decide +kernel
set_option maxRecDepth 20000 in
theorem ggX5_set_X2_viewOf : GoodIn wsX5_set wsX2_viewOf := goodIn_r _ [14, 15, 139, 140, 141, 142, 143] (by decide +kernel) (by decide +kernel)
set_option maxRecDepth 20000 in
theorem gX5_set_X2_viewOf : GoodIn wsX5_set (wsV RX5 55 RX2 yX2_viewOf wsX2_viewOf) := goodIn_app (goodIn_of _ (by decide +kernel)) ggX5_set_X2_viewOf
set_option maxRecDepth 20000 in
theorem ggX5_set_X4_shows : GoodIn wsX5_set wsX4_shows := goodIn_r _ [19, 20, 135, 136, 137, 138] (by decide +kernel) (by decide +kernel)
set_option maxRecDepth 20000 in
theorem gX5_set_X4_shows : GoodIn wsX5_set (wsV RX5 92 RX4 yX4_shows wsX4_shows) := goodIn_app (goodIn_of _ (by decide +kernel)) ggX5_set_X4_shows
set_option maxRecDepth 20000 in
theorem ggX5_set_X5_isValue : GoodIn wsX5_set wsX5_isValue := goodIn_r _ [24] (by decide +kernel) (by decide +kernel)
set_option maxRecDepth 20000 in
theorem gX5_set_X5_isValue : GoodIn wsX5_set (va_wsS RX5 59 yX5_isValue wsX5_isValue) := goodIn_app (goodIn_of _ (by decide +kernel)) ggX5_set_X5_isValue
set_option maxRecDepth 20000 in
theorem ggX5_set_X2_isFull : GoodIn wsX5_set wsX2_isFull := goodIn_r _ [28, 29, 139, 140, 141, 142, 143] (by decide +kernel) (by decide +kernel)
set_option maxRecDepth 20000 in
theorem gX5_set_X2_isFull : GoodIn wsX5_set (wsV RX5 63 RX2 yX2_isFull wsX2_isFull) := goodIn_app (goodIn_of _ (by decide +kernel)) ggX5_set_X2_isFull
set_option maxRecDepth 20000 in
theorem ggX5_set_X0_remember : GoodIn wsX5_set wsX0_remember := goodIn_r _ [34, 35, 36, 37, 38, 33, 39, 40, 41, 42, 43, 44, 45, 46, 47, 13, 48, 15, 29, 49, 50, 51, 144, 145, 139, 140, 141, 142, 143] (by decide +kernel) (by decide +kernel)
set_option maxRecDepth 20000 in
theorem gX5_set_X0_remember : GoodIn wsX5_set (wsV RX5 71 RX0 yX0_remember wsX0_remember) := goodIn_app (goodIn_of _ (by decide +kernel)) ggX5_set_X0_remember
set_option maxRecDepth 20000 in
theorem ggX5_set_X2_rowWith : GoodIn wsX5_set wsX2_rowWith := goodIn_r _ [55, 49, 56, 57, 58, 59, 60, 61, 62, 63, 64, 65, 66, 67, 68, 69, 70, 71, 72, 73, 74, 75, 76, 77, 78, 79, 80, 81, 82, 83, 84, 85, 86, 87, 88, 89, 90, 91, 92, 93, 94, 95, 96, 97, 98, 99, 100, 101, 102, 103, 104, 105, 23, 106, 107, 108, 109, 110, 111, 112, 113, 114, 115, 116, 117, 139, 140, 141, 142, 143, 146, 147, 148] (by decide +kernel) (by decide +kernel)
set_option maxRecDepth 20000 in
theorem gX5_set_X2_rowWith : GoodIn wsX5_set (wsV RX5 78 RX2 yX2_rowWith wsX2_rowWith) := goodIn_app (goodIn_of _ (by decide +kernel)) ggX5_set_X2_rowWith
set_option maxRecDepth 20000 in
theorem ggX5_set_X4_init : GoodIn wsX5_set wsX4_init := goodIn_r _ [120, 121, 69, 70, 122, 123, 124, 20, 135, 136, 137, 138] (by decide +kernel) (by decide +kernel)
set_option maxRecDepth 20000 in
theorem gX5_set_X4_init : GoodIn wsX5_set (wsX4_init) := ggX5_set_X4_init
set_option maxRecDepth 20000 in
theorem ggX5_set_X2_addView : GoodIn wsX5_set wsX2_addView := goodIn_r _ [128, 29, 15, 139, 140, 141, 142, 143] (by decide +kernel) (by decide +kernel)
set_option maxRecDepth 20000 in
theorem gX5_set_X2_addView : GoodIn wsX5_set (wsV RX5 51 RX2 yX2_addView wsX2_addView) := goodIn_app (goodIn_of _ (by decide +kernel)) ggX5_set_X2_addView
theorem dX5_set_0 : decode cX5_set 0 = .ok (.aload_n 0, 1) := by decide +kernel
theorem dX5_set_1 : decode cX5_set 1 = .ok (.getfield 10, 3) := by decide +kernel
theorem dX5_set_4 : decode cX5_set 4 = .ok (.iload_n 1, 1) := by decide +kernel
theorem dX5_set_5 : decode cX5_set 5 = .ok (.invokevirtual 55, 3) := by decide +kernel
theorem dX5_set_8 : decode cX5_set 8 = .ok (.astore 4, 2) := by decide +kernel
theorem dX5_set_10 : decode cX5_set 10 = .ok (.aload 4, 2) := by decide +kernel
theorem dX5_set_12 : decode cX5_set 12 = .ok (.ifnull 12, 3) := by decide +kernel
theorem dX5_set_15 : decode cX5_set 15 = .ok (.aload 4, 2) := by decide +kernel
theorem dX5_set_17 : decode cX5_set 17 = .ok (.iload_n 2, 1) := by decide +kernel
theorem dX5_set_18 : decode cX5_set 18 = .ok (.invokevirtual 92, 3) := by decide +kernel
theorem dX5_set_21 : decode cX5_set 21 = .ok (.ifCond .ne 5, 3) := by decide +kernel
theorem dX5_set_24 : decode cX5_set 24 = .ok (.iconst (-1), 1) := by decide +kernel
theorem dX5_set_25 : decode cX5_set 25 = .ok (.ireturn, 1) := by decide +kernel
theorem dX5_set_26 : decode cX5_set 26 = .ok (.iload_n 3, 1) := by decide +kernel
theorem dX5_set_27 : decode cX5_set 27 = .ok (.invokestatic 59, 3) := by decide +kernel
theorem dX5_set_30 : decode cX5_set 30 = .ok (.ifCond .ne 6, 3) := by decide +kernel
theorem dX5_set_33 : decode cX5_set 33 = .ok (.bipush (-2), 2) := by decide +kernel
theorem dX5_set_35 : decode cX5_set 35 = .ok (.ireturn, 1) := by decide +kernel
theorem dX5_set_36 : decode cX5_set 36 = .ok (.aload_n 0, 1) := by decide +kernel
theorem dX5_set_37 : decode cX5_set 37 = .ok (.getfield 10, 3) := by decide +kernel
theorem dX5_set_40 : decode cX5_set 40 = .ok (.invokevirtual 63, 3) := by decide +kernel
theorem dX5_set_43 : decode cX5_set 43 = .ok (.ifCond .eq 6, 3) := by decide +kernel
theorem dX5_set_46 : decode cX5_set 46 = .ok (.bipush (-3), 2) := by decide +kernel
theorem dX5_set_48 : decode cX5_set 48 = .ok (.ireturn, 1) := by decide +kernel
theorem dX5_set_49 : decode cX5_set 49 = .ok (.aload_n 0, 1) := by decide +kernel
theorem dX5_set_50 : decode cX5_set 50 = .ok (.getfield 26, 3) := by decide +kernel
theorem dX5_set_53 : decode cX5_set 53 = .ok (.aload_n 0, 1) := by decide +kernel
theorem dX5_set_54 : decode cX5_set 54 = .ok (.getfield 10, 3) := by decide +kernel
theorem dX5_set_57 : decode cX5_set 57 = .ok (.invokevirtual 71, 3) := by decide +kernel
theorem dX5_set_60 : decode cX5_set 60 = .ok (.aload_n 0, 1) := by decide +kernel
theorem dX5_set_61 : decode cX5_set 61 = .ok (.getfield 10, 3) := by decide +kernel
theorem dX5_set_64 : decode cX5_set 64 = .ok (.aload 4, 2) := by decide +kernel
theorem dX5_set_66 : decode cX5_set 66 = .ok (.getfield 75, 3) := by decide +kernel
theorem dX5_set_69 : decode cX5_set 69 = .ok (.aload 4, 2) := by decide +kernel
theorem dX5_set_71 : decode cX5_set 71 = .ok (.getfield 85, 3) := by decide +kernel
theorem dX5_set_74 : decode cX5_set 74 = .ok (.iload_n 2, 1) := by decide +kernel
theorem dX5_set_75 : decode cX5_set 75 = .ok (.iadd, 1) := by decide +kernel
theorem dX5_set_76 : decode cX5_set 76 = .ok (.iload_n 3, 1) := by decide +kernel
theorem dX5_set_77 : decode cX5_set 77 = .ok (.invokevirtual 78, 3) := by decide +kernel
theorem dX5_set_80 : decode cX5_set 80 = .ok (.astore 5, 2) := by decide +kernel
theorem dX5_set_82 : decode cX5_set 82 = .ok (.aload_n 0, 1) := by decide +kernel
theorem dX5_set_83 : decode cX5_set 83 = .ok (.getfield 10, 3) := by decide +kernel
theorem dX5_set_86 : decode cX5_set 86 = .ok (.new 46, 3) := by decide +kernel
theorem dX5_set_89 : decode cX5_set 89 = .ok (.dup, 1) := by decide +kernel
theorem dX5_set_90 : decode cX5_set 90 = .ok (.aload 5, 2) := by decide +kernel
theorem dX5_set_92 : decode cX5_set 92 = .ok (.aload 4, 2) := by decide +kernel
theorem dX5_set_94 : decode cX5_set 94 = .ok (.getfield 82, 3) := by decide +kernel
theorem dX5_set_97 : decode cX5_set 97 = .ok (.aload 4, 2) := by decide +kernel
theorem dX5_set_99 : decode cX5_set 99 = .ok (.getfield 85, 3) := by decide +kernel
theorem dX5_set_102 : decode cX5_set 102 = .ok (.aload 4, 2) := by decide +kernel
theorem dX5_set_104 : decode cX5_set 104 = .ok (.getfield 89, 3) := by decide +kernel
theorem dX5_set_107 : decode cX5_set 107 = .ok (.invokespecial 48, 3) := by decide +kernel
theorem dX5_set_110 : decode cX5_set 110 = .ok (.invokevirtual 51, 3) := by decide +kernel
theorem dX5_set_113 : decode cX5_set 113 = .ok (.ireturn, 1) := by decide +kernel
set_option maxRecDepth 20000 in
theorem ggX5_pop_X2_viewOf : GoodIn wsX5_pop wsX2_viewOf := goodIn_r _ [14, 15, 135, 136, 137, 138, 139] (by decide +kernel) (by decide +kernel)
set_option maxRecDepth 20000 in
theorem gX5_pop_X2_viewOf : GoodIn wsX5_pop (wsV RX5 55 RX2 yX2_viewOf wsX2_viewOf) := goodIn_app (goodIn_of _ (by decide +kernel)) ggX5_pop_X2_viewOf
set_option maxRecDepth 20000 in
theorem ggX5_pop_X2_isFull : GoodIn wsX5_pop wsX2_isFull := goodIn_r _ [19, 20, 135, 136, 137, 138, 139] (by decide +kernel) (by decide +kernel)
set_option maxRecDepth 20000 in
theorem gX5_pop_X2_isFull : GoodIn wsX5_pop (wsV RX5 63 RX2 yX2_isFull wsX2_isFull) := goodIn_app (goodIn_of _ (by decide +kernel)) ggX5_pop_X2_isFull
set_option maxRecDepth 20000 in
theorem ggX5_pop_X0_remember : GoodIn wsX5_pop wsX0_remember := goodIn_r _ [25, 26, 27, 28, 29, 24, 30, 31, 32, 33, 34, 35, 36, 37, 38, 13, 39, 15, 20, 40, 41, 42, 140, 141, 135, 136, 137, 138, 139] (by decide +kernel) (by decide +kernel)
set_option maxRecDepth 20000 in
theorem gX5_pop_X0_remember : GoodIn wsX5_pop (wsV RX5 71 RX0 yX0_remember wsX0_remember) := goodIn_app (goodIn_of _ (by decide +kernel)) ggX5_pop_X0_remember
set_option maxRecDepth 20000 in
theorem ggX5_pop_X2_rowWithoutLast : GoodIn wsX5_pop wsX2_rowWithoutLast := goodIn_r _ [46, 40, 47, 48, 49, 50, 51, 52, 53, 54, 55, 56, 57, 58, 59, 60, 61, 62, 63, 64, 65, 66, 67, 68, 69, 70, 71, 72, 73, 74, 75, 76, 77, 78, 79, 80, 81, 82, 83, 84, 85, 86, 87, 88, 89, 90, 91, 92, 93, 94, 95, 96, 97, 98, 99, 100, 101, 102, 103, 104, 105, 106, 107, 108, 109, 110, 111, 112, 135, 136, 137, 138, 139, 142, 143, 144] (by decide +kernel) (by decide +kernel)
set_option maxRecDepth 20000 in
theorem gX5_pop_X2_rowWithoutLast : GoodIn wsX5_pop (wsV RX5 95 RX2 yX2_rowWithoutLast wsX2_rowWithoutLast) := goodIn_app (goodIn_of _ (by decide +kernel)) ggX5_pop_X2_rowWithoutLast
set_option maxRecDepth 20000 in
theorem ggX5_pop_X4_init : GoodIn wsX5_pop wsX4_init := goodIn_r _ [115, 116, 60, 61, 117, 118, 119, 120, 131, 132, 133, 134] (by decide +kernel) (by decide +kernel)
set_option maxRecDepth 20000 in
theorem gX5_pop_X4_init : GoodIn wsX5_pop (wsX4_init) := ggX5_pop_X4_init
set_option maxRecDepth 20000 in
theorem ggX5_pop_X2_addView : GoodIn wsX5_pop wsX2_addView := goodIn_r _ [124, 20, 15, 135, 136, 137, 138, 139] (by decide +kernel) (by decide +kernel)
set_option maxRecDepth 20000 in
theorem gX5_pop_X2_addView : GoodIn wsX5_pop (wsV RX5 51 RX2 yX2_addView wsX2_addView) := goodIn_app (goodIn_of _ (by decide +kernel)) ggX5_pop_X2_addView
theorem dX5_pop_0 : decode cX5_pop 0 = .ok (.aload_n 0, 1) := by decide +kernel
theorem dX5_pop_1 : decode cX5_pop 1 = .ok (.getfield 10, 3) := by decide +kernel
theorem dX5_pop_4 : decode cX5_pop 4 = .ok (.iload_n 1, 1) := by decide +kernel
theorem dX5_pop_5 : decode cX5_pop 5 = .ok (.invokevirtual 55, 3) := by decide +kernel
theorem dX5_pop_8 : decode cX5_pop 8 = .ok (.astore_n 2, 1) := by decide +kernel
theorem dX5_pop_9 : decode cX5_pop 9 = .ok (.aload_n 2, 1) := by decide +kernel
theorem dX5_pop_10 : decode cX5_pop 10 = .ok (.ifnonnull 5, 3) := by decide +kernel
theorem dX5_pop_13 : decode cX5_pop 13 = .ok (.iconst (-1), 1) := by decide +kernel
theorem dX5_pop_14 : decode cX5_pop 14 = .ok (.ireturn, 1) := by decide +kernel
theorem dX5_pop_15 : decode cX5_pop 15 = .ok (.aload_n 2, 1) := by decide +kernel
theorem dX5_pop_16 : decode cX5_pop 16 = .ok (.getfield 89, 3) := by decide +kernel
theorem dX5_pop_19 : decode cX5_pop 19 = .ok (.ifCond .ne 6, 3) := by decide +kernel
theorem dX5_pop_22 : decode cX5_pop 22 = .ok (.bipush (-4), 2) := by decide +kernel
theorem dX5_pop_24 : decode cX5_pop 24 = .ok (.ireturn, 1) := by decide +kernel
theorem dX5_pop_25 : decode cX5_pop 25 = .ok (.aload_n 0, 1) := by decide +kernel
theorem dX5_pop_26 : decode cX5_pop 26 = .ok (.getfield 10, 3) := by decide +kernel
theorem dX5_pop_29 : decode cX5_pop 29 = .ok (.invokevirtual 63, 3) := by decide +kernel
theorem dX5_pop_32 : decode cX5_pop 32 = .ok (.ifCond .eq 6, 3) := by decide +kernel
theorem dX5_pop_35 : decode cX5_pop 35 = .ok (.bipush (-3), 2) := by decide +kernel
theorem dX5_pop_37 : decode cX5_pop 37 = .ok (.ireturn, 1) := by decide +kernel
theorem dX5_pop_38 : decode cX5_pop 38 = .ok (.aload_n 0, 1) := by decide +kernel
theorem dX5_pop_39 : decode cX5_pop 39 = .ok (.getfield 26, 3) := by decide +kernel
theorem dX5_pop_42 : decode cX5_pop 42 = .ok (.aload_n 0, 1) := by decide +kernel
theorem dX5_pop_43 : decode cX5_pop 43 = .ok (.getfield 10, 3) := by decide +kernel
theorem dX5_pop_46 : decode cX5_pop 46 = .ok (.invokevirtual 71, 3) := by decide +kernel
theorem dX5_pop_49 : decode cX5_pop 49 = .ok (.aload_n 2, 1) := by decide +kernel
theorem dX5_pop_50 : decode cX5_pop 50 = .ok (.getfield 82, 3) := by decide +kernel
theorem dX5_pop_53 : decode cX5_pop 53 = .ok (.ifCond .eq 10, 3) := by decide +kernel
theorem dX5_pop_56 : decode cX5_pop 56 = .ok (.aload_n 2, 1) := by decide +kernel
theorem dX5_pop_57 : decode cX5_pop 57 = .ok (.getfield 75, 3) := by decide +kernel
theorem dX5_pop_60 : decode cX5_pop 60 = .ok (.goto 14, 3) := by decide +kernel
theorem dX5_pop_63 : decode cX5_pop 63 = .ok (.aload_n 0, 1) := by decide +kernel
theorem dX5_pop_64 : decode cX5_pop 64 = .ok (.getfield 10, 3) := by decide +kernel
theorem dX5_pop_67 : decode cX5_pop 67 = .ok (.aload_n 2, 1) := by decide +kernel
theorem dX5_pop_68 : decode cX5_pop 68 = .ok (.getfield 75, 3) := by decide +kernel
theorem dX5_pop_71 : decode cX5_pop 71 = .ok (.invokevirtual 95, 3) := by decide +kernel
theorem dX5_pop_74 : decode cX5_pop 74 = .ok (.astore_n 3, 1) := by decide +kernel
theorem dX5_pop_75 : decode cX5_pop 75 = .ok (.aload_n 0, 1) := by decide +kernel
theorem dX5_pop_76 : decode cX5_pop 76 = .ok (.getfield 10, 3) := by decide +kernel
theorem dX5_pop_79 : decode cX5_pop 79 = .ok (.new 46, 3) := by decide +kernel
theorem dX5_pop_82 : decode cX5_pop 82 = .ok (.dup, 1) := by decide +kernel
theorem dX5_pop_83 : decode cX5_pop 83 = .ok (.aload_n 3, 1) := by decide +kernel
theorem dX5_pop_84 : decode cX5_pop 84 = .ok (.aload_n 2, 1) := by decide +kernel
theorem dX5_pop_85 : decode cX5_pop 85 = .ok (.getfield 82, 3) := by decide +kernel
theorem dX5_pop_88 : decode cX5_pop 88 = .ok (.aload_n 2, 1) := by decide +kernel
theorem dX5_pop_89 : decode cX5_pop 89 = .ok (.getfield 85, 3) := by decide +kernel
theorem dX5_pop_92 : decode cX5_pop 92 = .ok (.aload_n 2, 1) := by decide +kernel
theorem dX5_pop_93 : decode cX5_pop 93 = .ok (.getfield 89, 3) := by decide +kernel
theorem dX5_pop_96 : decode cX5_pop 96 = .ok (.iconst 1, 1) := by decide +kernel
theorem dX5_pop_97 : decode cX5_pop 97 = .ok (.isub, 1) := by decide +kernel
theorem dX5_pop_98 : decode cX5_pop 98 = .ok (.invokespecial 48, 3) := by decide +kernel
theorem dX5_pop_101 : decode cX5_pop 101 = .ok (.invokevirtual 51, 3) := by decide +kernel
theorem dX5_pop_104 : decode cX5_pop 104 = .ok (.ireturn, 1) := by decide +kernel
set_option maxRecDepth 20000 in
theorem ggX5_window_X2_viewOf : GoodIn wsX5_window wsX2_viewOf := goodIn_r _ [13, 14, 66, 67, 68, 69, 70] (by decide +kernel) (by decide +kernel)
set_option maxRecDepth 20000 in
theorem gX5_window_X2_viewOf : GoodIn wsX5_window (wsV RX5 55 RX2 yX2_viewOf wsX2_viewOf) := goodIn_app (goodIn_of _ (by decide +kernel)) ggX5_window_X2_viewOf
set_option maxRecDepth 20000 in
theorem ggX5_window_X2_isFull : GoodIn wsX5_window wsX2_isFull := goodIn_r _ [18, 19, 66, 67, 68, 69, 70] (by decide +kernel) (by decide +kernel)
set_option maxRecDepth 20000 in
theorem gX5_window_X2_isFull : GoodIn wsX5_window (wsV RX5 63 RX2 yX2_isFull wsX2_isFull) := goodIn_app (goodIn_of _ (by decide +kernel)) ggX5_window_X2_isFull
set_option maxRecDepth 20000 in
theorem ggX5_window_X0_remember : GoodIn wsX5_window wsX0_remember := goodIn_r _ [24, 25, 26, 27, 28, 23, 29, 30, 31, 32, 33, 34, 35, 36, 37, 12, 38, 14, 19, 39, 40, 41, 71, 72, 66, 67, 68, 69, 70] (by decide +kernel) (by decide +kernel)
set_option maxRecDepth 20000 in
theorem gX5_window_X0_remember : GoodIn wsX5_window (wsV RX5 71 RX0 yX0_remember wsX0_remember) := goodIn_app (goodIn_of _ (by decide +kernel)) ggX5_window_X0_remember
set_option maxRecDepth 20000 in
theorem ggX5_window_X4_init : GoodIn wsX5_window wsX4_init := goodIn_r _ [44, 45, 46, 47, 48, 49, 50, 51, 62, 63, 64, 65] (by decide +kernel) (by decide +kernel)
set_option maxRecDepth 20000 in
theorem gX5_window_X4_init : GoodIn wsX5_window (wsX4_init) := ggX5_window_X4_init
set_option maxRecDepth 20000 in
theorem ggX5_window_X2_addView : GoodIn wsX5_window wsX2_addView := goodIn_r _ [55, 19, 14, 66, 67, 68, 69, 70] (by decide +kernel) (by decide +kernel)
set_option maxRecDepth 20000 in
theorem gX5_window_X2_addView : GoodIn wsX5_window (wsV RX5 51 RX2 yX2_addView wsX2_addView) := goodIn_app (goodIn_of _ (by decide +kernel)) ggX5_window_X2_addView
theorem dX5_window_0 : decode cX5_window 0 = .ok (.aload_n 0, 1) := by decide +kernel
theorem dX5_window_1 : decode cX5_window 1 = .ok (.getfield 10, 3) := by decide +kernel
theorem dX5_window_4 : decode cX5_window 4 = .ok (.iload_n 1, 1) := by decide +kernel
theorem dX5_window_5 : decode cX5_window 5 = .ok (.invokevirtual 55, 3) := by decide +kernel
theorem dX5_window_8 : decode cX5_window 8 = .ok (.astore 4, 2) := by decide +kernel
theorem dX5_window_10 : decode cX5_window 10 = .ok (.aload 4, 2) := by decide +kernel
theorem dX5_window_12 : decode cX5_window 12 = .ok (.ifnonnull 5, 3) := by decide +kernel
theorem dX5_window_15 : decode cX5_window 15 = .ok (.iconst (-1), 1) := by decide +kernel
theorem dX5_window_16 : decode cX5_window 16 = .ok (.ireturn, 1) := by decide +kernel
theorem dX5_window_17 : decode cX5_window 17 = .ok (.iload_n 2, 1) := by decide +kernel
theorem dX5_window_18 : decode cX5_window 18 = .ok (.ifCond .lt 27, 3) := by decide +kernel
theorem dX5_window_21 : decode cX5_window 21 = .ok (.iload_n 2, 1) := by decide +kernel
theorem dX5_window_22 : decode cX5_window 22 = .ok (.aload 4, 2) := by decide +kernel
theorem dX5_window_24 : decode cX5_window 24 = .ok (.getfield 89, 3) := by decide +kernel
theorem dX5_window_27 : decode cX5_window 27 = .ok (.if_icmp .gt 18, 3) := by decide +kernel
theorem dX5_window_30 : decode cX5_window 30 = .ok (.iload_n 3, 1) := by decide +kernel
theorem dX5_window_31 : decode cX5_window 31 = .ok (.ifCond .lt 14, 3) := by decide +kernel
theorem dX5_window_34 : decode cX5_window 34 = .ok (.iload_n 3, 1) := by decide +kernel
theorem dX5_window_35 : decode cX5_window 35 = .ok (.aload 4, 2) := by decide +kernel
theorem dX5_window_37 : decode cX5_window 37 = .ok (.getfield 89, 3) := by decide +kernel
theorem dX5_window_40 : decode cX5_window 40 = .ok (.iload_n 2, 1) := by decide +kernel
theorem dX5_window_41 : decode cX5_window 41 = .ok (.isub, 1) := by decide +kernel
theorem dX5_window_42 : decode cX5_window 42 = .ok (.if_icmp .le 6, 3) := by decide +kernel
theorem dX5_window_45 : decode cX5_window 45 = .ok (.bipush (-2), 2) := by decide +kernel
theorem dX5_window_47 : decode cX5_window 47 = .ok (.ireturn, 1) := by decide +kernel
theorem dX5_window_48 : decode cX5_window 48 = .ok (.aload_n 0, 1) := by decide +kernel
theorem dX5_window_49 : decode cX5_window 49 = .ok (.getfield 10, 3) := by decide +kernel
theorem dX5_window_52 : decode cX5_window 52 = .ok (.invokevirtual 63, 3) := by decide +kernel
theorem dX5_window_55 : decode cX5_window 55 = .ok (.ifCond .eq 6, 3) := by decide +kernel
theorem dX5_window_58 : decode cX5_window 58 = .ok (.bipush (-3), 2) := by decide +kernel
theorem dX5_window_60 : decode cX5_window 60 = .ok (.ireturn, 1) := by decide +kernel
theorem dX5_window_61 : decode cX5_window 61 = .ok (.aload_n 0, 1) := by decide +kernel
theorem dX5_window_62 : decode cX5_window 62 = .ok (.getfield 26, 3) := by decide +kernel
theorem dX5_window_65 : decode cX5_window 65 = .ok (.aload_n 0, 1) := by decide +kernel
theorem dX5_window_66 : decode cX5_window 66 = .ok (.getfield 10, 3) := by decide +kernel
theorem dX5_window_69 : decode cX5_window 69 = .ok (.invokevirtual 71, 3) := by decide +kernel
theorem dX5_window_72 : decode cX5_window 72 = .ok (.aload_n 0, 1) := by decide +kernel
theorem dX5_window_73 : decode cX5_window 73 = .ok (.getfield 10, 3) := by decide +kernel
theorem dX5_window_76 : decode cX5_window 76 = .ok (.new 46, 3) := by decide +kernel
theorem dX5_window_79 : decode cX5_window 79 = .ok (.dup, 1) := by decide +kernel
theorem dX5_window_80 : decode cX5_window 80 = .ok (.aload 4, 2) := by decide +kernel
theorem dX5_window_82 : decode cX5_window 82 = .ok (.getfield 75, 3) := by decide +kernel
theorem dX5_window_85 : decode cX5_window 85 = .ok (.iconst 1, 1) := by decide +kernel
theorem dX5_window_86 : decode cX5_window 86 = .ok (.aload 4, 2) := by decide +kernel
theorem dX5_window_88 : decode cX5_window 88 = .ok (.getfield 85, 3) := by decide +kernel
theorem dX5_window_91 : decode cX5_window 91 = .ok (.iload_n 2, 1) := by decide +kernel
theorem dX5_window_92 : decode cX5_window 92 = .ok (.iadd, 1) := by decide +kernel
theorem dX5_window_93 : decode cX5_window 93 = .ok (.iload_n 3, 1) := by decide +kernel
theorem dX5_window_94 : decode cX5_window 94 = .ok (.invokespecial 48, 3) := by decide +kernel
theorem dX5_window_97 : decode cX5_window 97 = .ok (.invokevirtual 51, 3) := by decide +kernel
theorem dX5_window_100 : decode cX5_window 100 = .ok (.ireturn, 1) := by decide +kernel
set_option maxRecDepth 20000 in
theorem ggX5_drop_X2_viewOf : GoodIn wsX5_drop wsX2_viewOf := goodIn_r _ [7, 8, 46, 47, 48, 49, 50] (by decide +kernel) (by decide +kernel)
set_option maxRecDepth 20000 in
theorem gX5_drop_X2_viewOf : GoodIn wsX5_drop (wsV RX5 55 RX2 yX2_viewOf wsX2_viewOf) := goodIn_app (goodIn_of _ (by decide +kernel)) ggX5_drop_X2_viewOf
set_option maxRecDepth 20000 in
theorem ggX5_drop_X0_remember : GoodIn wsX5_drop wsX0_remember := goodIn_r _ [13, 14, 15, 16, 17, 12, 18, 19, 20, 21, 22, 23, 24, 25, 26, 6, 27, 8, 28, 29, 30, 31, 51, 52, 46, 47, 48, 49, 50] (by decide +kernel) (by decide +kernel)
set_option maxRecDepth 20000 in
theorem gX5_drop_X0_remember : GoodIn wsX5_drop (wsV RX5 71 RX0 yX0_remember wsX0_remember) := goodIn_app (goodIn_of _ (by decide +kernel)) ggX5_drop_X0_remember
set_option maxRecDepth 20000 in
theorem ggX5_drop_X2_removeView : GoodIn wsX5_drop wsX2_removeView := goodIn_r _ [35, 8, 46, 47, 48, 49, 50] (by decide +kernel) (by decide +kernel)
set_option maxRecDepth 20000 in
theorem gX5_drop_X2_removeView : GoodIn wsX5_drop (wsV RX5 99 RX2 yX2_removeView wsX2_removeView) := goodIn_app (goodIn_of _ (by decide +kernel)) ggX5_drop_X2_removeView
set_option maxRecDepth 20000 in
theorem ggX5_drop_X2_viewsLeft : GoodIn wsX5_drop wsX2_viewsLeft := goodIn_r _ [39, 8, 46, 47, 48, 49, 50] (by decide +kernel) (by decide +kernel)
set_option maxRecDepth 20000 in
theorem gX5_drop_X2_viewsLeft : GoodIn wsX5_drop (wsV RX5 102 RX2 yX2_viewsLeft wsX2_viewsLeft) := goodIn_app (goodIn_of _ (by decide +kernel)) ggX5_drop_X2_viewsLeft
theorem dX5_drop_0 : decode cX5_drop 0 = .ok (.aload_n 0, 1) := by decide +kernel
theorem dX5_drop_1 : decode cX5_drop 1 = .ok (.getfield 10, 3) := by decide +kernel
theorem dX5_drop_4 : decode cX5_drop 4 = .ok (.iload_n 1, 1) := by decide +kernel
theorem dX5_drop_5 : decode cX5_drop 5 = .ok (.invokevirtual 55, 3) := by decide +kernel
theorem dX5_drop_8 : decode cX5_drop 8 = .ok (.ifnonnull 5, 3) := by decide +kernel
theorem dX5_drop_11 : decode cX5_drop 11 = .ok (.iconst (-1), 1) := by decide +kernel
theorem dX5_drop_12 : decode cX5_drop 12 = .ok (.ireturn, 1) := by decide +kernel
theorem dX5_drop_13 : decode cX5_drop 13 = .ok (.aload_n 0, 1) := by decide +kernel
theorem dX5_drop_14 : decode cX5_drop 14 = .ok (.getfield 26, 3) := by decide +kernel
theorem dX5_drop_17 : decode cX5_drop 17 = .ok (.aload_n 0, 1) := by decide +kernel
theorem dX5_drop_18 : decode cX5_drop 18 = .ok (.getfield 10, 3) := by decide +kernel
theorem dX5_drop_21 : decode cX5_drop 21 = .ok (.invokevirtual 71, 3) := by decide +kernel
theorem dX5_drop_24 : decode cX5_drop 24 = .ok (.aload_n 0, 1) := by decide +kernel
theorem dX5_drop_25 : decode cX5_drop 25 = .ok (.getfield 10, 3) := by decide +kernel
theorem dX5_drop_28 : decode cX5_drop 28 = .ok (.iload_n 1, 1) := by decide +kernel
theorem dX5_drop_29 : decode cX5_drop 29 = .ok (.invokevirtual 99, 3) := by decide +kernel
theorem dX5_drop_32 : decode cX5_drop 32 = .ok (.aload_n 0, 1) := by decide +kernel
theorem dX5_drop_33 : decode cX5_drop 33 = .ok (.getfield 10, 3) := by decide +kernel
theorem dX5_drop_36 : decode cX5_drop 36 = .ok (.invokevirtual 102, 3) := by decide +kernel
theorem dX5_drop_39 : decode cX5_drop 39 = .ok (.ireturn, 1) := by decide +kernel
set_option maxRecDepth 20000 in
theorem ggX5_begin_X2_viewOf : GoodIn wsX5_begin wsX2_viewOf := goodIn_r _ [11, 12, 46, 47, 48, 49, 50] (by decide +kernel) (by decide +kernel)
set_option maxRecDepth 20000 in
theorem gX5_begin_X2_viewOf : GoodIn wsX5_begin (wsV RX5 55 RX2 yX2_viewOf wsX2_viewOf) := goodIn_app (goodIn_of _ (by decide +kernel)) ggX5_begin_X2_viewOf
set_option maxRecDepth 20000 in
theorem ggX5_begin_X0_remember : GoodIn wsX5_begin wsX0_remember := goodIn_r _ [17, 18, 19, 20, 21, 16, 22, 23, 24, 25, 26, 27, 28, 29, 30, 10, 31, 12, 32, 33, 34, 35, 58, 59, 46, 47, 48, 49, 50] (by decide +kernel) (by decide +kernel)
set_option maxRecDepth 20000 in
theorem gX5_begin_X0_remember : GoodIn wsX5_begin (wsV RX5 71 RX0 yX0_remember wsX0_remember) := goodIn_app (goodIn_of _ (by decide +kernel)) ggX5_begin_X0_remember
set_option maxRecDepth 20000 in
theorem ggX5_begin_X2_beginEdit : GoodIn wsX5_begin wsX2_beginEdit := goodIn_r _ [39, 34, 33, 35, 46, 47, 48, 49, 50] (by decide +kernel) (by decide +kernel)
set_option maxRecDepth 20000 in
theorem gX5_begin_X2_beginEdit : GoodIn wsX5_begin (wsV RX5 108 RX2 yX2_beginEdit wsX2_beginEdit) := goodIn_app (goodIn_of _ (by decide +kernel)) ggX5_begin_X2_beginEdit
theorem dX5_begin_0 : decode cX5_begin 0 = .ok (.aload_n 0, 1) := by decide +kernel
theorem dX5_begin_1 : decode cX5_begin 1 = .ok (.getfield 10, 3) := by decide +kernel
theorem dX5_begin_4 : decode cX5_begin 4 = .ok (.iload_n 1, 1) := by decide +kernel
theorem dX5_begin_5 : decode cX5_begin 5 = .ok (.invokevirtual 55, 3) := by decide +kernel
theorem dX5_begin_8 : decode cX5_begin 8 = .ok (.astore_n 2, 1) := by decide +kernel
theorem dX5_begin_9 : decode cX5_begin 9 = .ok (.aload_n 2, 1) := by decide +kernel
theorem dX5_begin_10 : decode cX5_begin 10 = .ok (.ifnonnull 5, 3) := by decide +kernel
theorem dX5_begin_13 : decode cX5_begin 13 = .ok (.iconst (-1), 1) := by decide +kernel
theorem dX5_begin_14 : decode cX5_begin 14 = .ok (.ireturn, 1) := by decide +kernel
theorem dX5_begin_15 : decode cX5_begin 15 = .ok (.aload_n 0, 1) := by decide +kernel
theorem dX5_begin_16 : decode cX5_begin 16 = .ok (.getfield 10, 3) := by decide +kernel
theorem dX5_begin_19 : decode cX5_begin 19 = .ok (.getfield 105, 3) := by decide +kernel
theorem dX5_begin_22 : decode cX5_begin 22 = .ok (.ifnonnull 10, 3) := by decide +kernel
theorem dX5_begin_25 : decode cX5_begin 25 = .ok (.aload_n 2, 1) := by decide +kernel
theorem dX5_begin_26 : decode cX5_begin 26 = .ok (.getfield 82, 3) := by decide +kernel
theorem dX5_begin_29 : decode cX5_begin 29 = .ok (.ifCond .eq 6, 3) := by decide +kernel
theorem dX5_begin_32 : decode cX5_begin 32 = .ok (.bipush (-4), 2) := by decide +kernel
theorem dX5_begin_34 : decode cX5_begin 34 = .ok (.ireturn, 1) := by decide +kernel
theorem dX5_begin_35 : decode cX5_begin 35 = .ok (.aload_n 0, 1) := by decide +kernel
theorem dX5_begin_36 : decode cX5_begin 36 = .ok (.getfield 26, 3) := by decide +kernel
theorem dX5_begin_39 : decode cX5_begin 39 = .ok (.aload_n 0, 1) := by decide +kernel
theorem dX5_begin_40 : decode cX5_begin 40 = .ok (.getfield 10, 3) := by decide +kernel
theorem dX5_begin_43 : decode cX5_begin 43 = .ok (.invokevirtual 71, 3) := by decide +kernel
theorem dX5_begin_46 : decode cX5_begin 46 = .ok (.aload_n 0, 1) := by decide +kernel
theorem dX5_begin_47 : decode cX5_begin 47 = .ok (.getfield 10, 3) := by decide +kernel
theorem dX5_begin_50 : decode cX5_begin 50 = .ok (.aload_n 2, 1) := by decide +kernel
theorem dX5_begin_51 : decode cX5_begin 51 = .ok (.getfield 75, 3) := by decide +kernel
theorem dX5_begin_54 : decode cX5_begin 54 = .ok (.invokevirtual 108, 3) := by decide +kernel
theorem dX5_begin_57 : decode cX5_begin 57 = .ok (.aload_n 2, 1) := by decide +kernel
theorem dX5_begin_58 : decode cX5_begin 58 = .ok (.getfield 75, 3) := by decide +kernel
theorem dX5_begin_61 : decode cX5_begin 61 = .ok (.getfield 112, 3) := by decide +kernel
theorem dX5_begin_64 : decode cX5_begin 64 = .ok (.ireturn, 1) := by decide +kernel
set_option maxRecDepth 20000 in
theorem ggX5_editPush_X5_isValue : GoodIn wsX5_editPush wsX5_isValue := goodIn_r _ [8] (by decide +kernel) (by decide +kernel)
set_option maxRecDepth 20000 in
theorem gX5_editPush_X5_isValue : GoodIn wsX5_editPush (va_wsS RX5 59 yX5_isValue wsX5_isValue) := goodIn_app (goodIn_of _ (by decide +kernel)) ggX5_editPush_X5_isValue
set_option maxRecDepth 20000 in
theorem ggX5_editPush_X0_remember : GoodIn wsX5_editPush wsX0_remember := goodIn_r _ [13, 14, 15, 16, 17, 12, 18, 19, 20, 21, 22, 23, 24, 25, 26, 27, 28, 29, 30, 31, 32, 33, 117, 118, 109, 110, 111, 112, 113] (by decide +kernel) (by decide +kernel)
set_option maxRecDepth 20000 in
theorem gX5_editPush_X0_remember : GoodIn wsX5_editPush (wsV RX5 71 RX0 yX0_remember wsX0_remember) := goodIn_app (goodIn_of _ (by decide +kernel)) ggX5_editPush_X0_remember
set_option maxRecDepth 20000 in
theorem ggX5_editPush_X2_editWrite : GoodIn wsX5_editPush wsX2_editWrite := goodIn_r _ [37, 31, 33, 38, 39, 40, 41, 42, 43, 44, 45, 46, 47, 48, 49, 50, 51, 52, 53, 54, 55, 56, 57, 58, 59, 60, 61, 62, 63, 64, 65, 66, 67, 68, 69, 70, 71, 72, 73, 74, 75, 76, 77, 78, 79, 80, 81, 82, 83, 84, 85, 86, 7, 87, 88, 89, 90, 91, 92, 93, 94, 95, 96, 97, 98, 99, 100, 101, 27, 102, 32, 109, 110, 111, 112, 113, 114, 115, 116] (by decide +kernel) (by decide +kernel)
set_option maxRecDepth 20000 in
theorem gX5_editPush_X2_editWrite : GoodIn wsX5_editPush (wsV RX5 115 RX2 yX2_editWrite wsX2_editWrite) := goodIn_app (goodIn_of _ (by decide +kernel)) ggX5_editPush_X2_editWrite
theorem dX5_editPush_0 : decode cX5_editPush 0 = .ok (.aload_n 0, 1) := by decide +kernel
theorem dX5_editPush_1 : decode cX5_editPush 1 = .ok (.getfield 10, 3) := by decide +kernel
theorem dX5_editPush_4 : decode cX5_editPush 4 = .ok (.getfield 105, 3) := by decide +kernel
theorem dX5_editPush_7 : decode cX5_editPush 7 = .ok (.astore_n 2, 1) := by decide +kernel
theorem dX5_editPush_8 : decode cX5_editPush 8 = .ok (.aload_n 2, 1) := by decide +kernel
theorem dX5_editPush_9 : decode cX5_editPush 9 = .ok (.ifnonnull 6, 3) := by decide +kernel
theorem dX5_editPush_12 : decode cX5_editPush 12 = .ok (.bipush (-4), 2) := by decide +kernel
theorem dX5_editPush_14 : decode cX5_editPush 14 = .ok (.ireturn, 1) := by decide +kernel
theorem dX5_editPush_15 : decode cX5_editPush 15 = .ok (.iload_n 1, 1) := by decide +kernel
theorem dX5_editPush_16 : decode cX5_editPush 16 = .ok (.invokestatic 59, 3) := by decide +kernel
theorem dX5_editPush_19 : decode cX5_editPush 19 = .ok (.ifCond .ne 6, 3) := by decide +kernel
theorem dX5_editPush_22 : decode cX5_editPush 22 = .ok (.bipush (-2), 2) := by decide +kernel
theorem dX5_editPush_24 : decode cX5_editPush 24 = .ok (.ireturn, 1) := by decide +kernel
theorem dX5_editPush_25 : decode cX5_editPush 25 = .ok (.aload_n 2, 1) := by decide +kernel
theorem dX5_editPush_26 : decode cX5_editPush 26 = .ok (.getfield 112, 3) := by decide +kernel
theorem dX5_editPush_29 : decode cX5_editPush 29 = .ok (.sipush 300, 3) := by decide +kernel
theorem dX5_editPush_32 : decode cX5_editPush 32 = .ok (.if_icmp .lt 6, 3) := by decide +kernel
theorem dX5_editPush_35 : decode cX5_editPush 35 = .ok (.bipush (-3), 2) := by decide +kernel
theorem dX5_editPush_37 : decode cX5_editPush 37 = .ok (.ireturn, 1) := by decide +kernel
theorem dX5_editPush_38 : decode cX5_editPush 38 = .ok (.aload_n 0, 1) := by decide +kernel
theorem dX5_editPush_39 : decode cX5_editPush 39 = .ok (.getfield 26, 3) := by decide +kernel
theorem dX5_editPush_42 : decode cX5_editPush 42 = .ok (.aload_n 0, 1) := by decide +kernel
theorem dX5_editPush_43 : decode cX5_editPush 43 = .ok (.getfield 10, 3) := by decide +kernel
theorem dX5_editPush_46 : decode cX5_editPush 46 = .ok (.invokevirtual 71, 3) := by decide +kernel
theorem dX5_editPush_49 : decode cX5_editPush 49 = .ok (.aload_n 0, 1) := by decide +kernel
theorem dX5_editPush_50 : decode cX5_editPush 50 = .ok (.getfield 10, 3) := by decide +kernel
theorem dX5_editPush_53 : decode cX5_editPush 53 = .ok (.aload_n 2, 1) := by decide +kernel
theorem dX5_editPush_54 : decode cX5_editPush 54 = .ok (.aload_n 2, 1) := by decide +kernel
theorem dX5_editPush_55 : decode cX5_editPush 55 = .ok (.getfield 112, 3) := by decide +kernel
theorem dX5_editPush_58 : decode cX5_editPush 58 = .ok (.iload_n 1, 1) := by decide +kernel
theorem dX5_editPush_59 : decode cX5_editPush 59 = .ok (.invokevirtual 115, 3) := by decide +kernel
theorem dX5_editPush_62 : decode cX5_editPush 62 = .ok (.ireturn, 1) := by decide +kernel
set_option maxRecDepth 20000 in
theorem ggX5_editSet_X5_isValue : GoodIn wsX5_editSet wsX5_isValue := goodIn_r _ [8] (by decide +kernel) (by decide +kernel)
set_option maxRecDepth 20000 in
theorem gX5_editSet_X5_isValue : GoodIn wsX5_editSet (va_wsS RX5 59 yX5_isValue wsX5_isValue) := goodIn_app (goodIn_of _ (by decide +kernel)) ggX5_editSet_X5_isValue
set_option maxRecDepth 20000 in
theorem ggX5_editSet_X0_remember : GoodIn wsX5_editSet wsX0_remember := goodIn_r _ [13, 14, 15, 16, 17, 12, 18, 19, 20, 21, 22, 23, 24, 25, 26, 27, 28, 29, 30, 31, 32, 33, 117, 118, 109, 110, 111, 112, 113] (by decide +kernel) (by decide +kernel)
set_option maxRecDepth 20000 in
theorem gX5_editSet_X0_remember : GoodIn wsX5_editSet (wsV RX5 71 RX0 yX0_remember wsX0_remember) := goodIn_app (goodIn_of _ (by decide +kernel)) ggX5_editSet_X0_remember
set_option maxRecDepth 20000 in
theorem ggX5_editSet_X2_editWrite : GoodIn wsX5_editSet wsX2_editWrite := goodIn_r _ [37, 31, 33, 38, 39, 40, 41, 42, 43, 44, 45, 46, 47, 48, 49, 50, 51, 52, 53, 54, 55, 56, 57, 58, 59, 60, 61, 62, 63, 64, 65, 66, 67, 68, 69, 70, 71, 72, 73, 74, 75, 76, 77, 78, 79, 80, 81, 82, 83, 84, 85, 86, 7, 87, 88, 89, 90, 91, 92, 93, 94, 95, 96, 97, 98, 99, 100, 101, 27, 102, 32, 109, 110, 111, 112, 113, 114, 115, 116] (by decide +kernel) (by decide +kernel)
set_option maxRecDepth 20000 in
theorem gX5_editSet_X2_editWrite : GoodIn wsX5_editSet (wsV RX5 115 RX2 yX2_editWrite wsX2_editWrite) := goodIn_app (goodIn_of _ (by decide +kernel)) ggX5_editSet_X2_editWrite
theorem dX5_editSet_0 : decode cX5_editSet 0 = .ok (.aload_n 0, 1) := by decide +kernel
theorem dX5_editSet_1 : decode cX5_editSet 1 = .ok (.getfield 10, 3) := by decide +kernel
theorem dX5_editSet_4 : decode cX5_editSet 4 = .ok (.getfield 105, 3) := by decide +kernel
theorem dX5_editSet_7 : decode cX5_editSet 7 = .ok (.astore_n 3, 1) := by decide +kernel
theorem dX5_editSet_8 : decode cX5_editSet 8 = .ok (.aload_n 3, 1) := by decide +kernel
theorem dX5_editSet_9 : decode cX5_editSet 9 = .ok (.ifnonnull 6, 3) := by decide +kernel
theorem dX5_editSet_12 : decode cX5_editSet 12 = .ok (.bipush (-4), 2) := by decide +kernel
theorem dX5_editSet_14 : decode cX5_editSet 14 = .ok (.ireturn, 1) := by decide +kernel
theorem dX5_editSet_15 : decode cX5_editSet 15 = .ok (.iload_n 1, 1) := by decide +kernel
theorem dX5_editSet_16 : decode cX5_editSet 16 = .ok (.ifCond .lt 11, 3) := by decide +kernel
theorem dX5_editSet_19 : decode cX5_editSet 19 = .ok (.iload_n 1, 1) := by decide +kernel
theorem dX5_editSet_20 : decode cX5_editSet 20 = .ok (.aload_n 3, 1) := by decide +kernel
theorem dX5_editSet_21 : decode cX5_editSet 21 = .ok (.getfield 112, 3) := by decide +kernel
theorem dX5_editSet_24 : decode cX5_editSet 24 = .ok (.if_icmp .lt 5, 3) := by decide +kernel
theorem dX5_editSet_27 : decode cX5_editSet 27 = .ok (.iconst (-1), 1) := by decide +kernel
theorem dX5_editSet_28 : decode cX5_editSet 28 = .ok (.ireturn, 1) := by decide +kernel
theorem dX5_editSet_29 : decode cX5_editSet 29 = .ok (.iload_n 2, 1) := by decide +kernel
theorem dX5_editSet_30 : decode cX5_editSet 30 = .ok (.invokestatic 59, 3) := by decide +kernel
theorem dX5_editSet_33 : decode cX5_editSet 33 = .ok (.ifCond .ne 6, 3) := by decide +kernel
theorem dX5_editSet_36 : decode cX5_editSet 36 = .ok (.bipush (-2), 2) := by decide +kernel
theorem dX5_editSet_38 : decode cX5_editSet 38 = .ok (.ireturn, 1) := by decide +kernel
theorem dX5_editSet_39 : decode cX5_editSet 39 = .ok (.aload_n 0, 1) := by decide +kernel
theorem dX5_editSet_40 : decode cX5_editSet 40 = .ok (.getfield 26, 3) := by decide +kernel
theorem dX5_editSet_43 : decode cX5_editSet 43 = .ok (.aload_n 0, 1) := by decide +kernel
theorem dX5_editSet_44 : decode cX5_editSet 44 = .ok (.getfield 10, 3) := by decide +kernel
theorem dX5_editSet_47 : decode cX5_editSet 47 = .ok (.invokevirtual 71, 3) := by decide +kernel
theorem dX5_editSet_50 : decode cX5_editSet 50 = .ok (.aload_n 0, 1) := by decide +kernel
theorem dX5_editSet_51 : decode cX5_editSet 51 = .ok (.getfield 10, 3) := by decide +kernel
theorem dX5_editSet_54 : decode cX5_editSet 54 = .ok (.aload_n 3, 1) := by decide +kernel
theorem dX5_editSet_55 : decode cX5_editSet 55 = .ok (.iload_n 1, 1) := by decide +kernel
theorem dX5_editSet_56 : decode cX5_editSet 56 = .ok (.iload_n 2, 1) := by decide +kernel
theorem dX5_editSet_57 : decode cX5_editSet 57 = .ok (.invokevirtual 115, 3) := by decide +kernel
theorem dX5_editSet_60 : decode cX5_editSet 60 = .ok (.ireturn, 1) := by decide +kernel
set_option maxRecDepth 20000 in
theorem ggX5_editPop_X0_remember : GoodIn wsX5_editPop wsX0_remember := goodIn_r _ [9, 10, 11, 12, 13, 8, 14, 15, 16, 17, 18, 19, 20, 21, 22, 23, 24, 25, 26, 27, 28, 29, 117, 118, 109, 110, 111, 112, 113] (by decide +kernel) (by decide +kernel)
set_option maxRecDepth 20000 in
theorem gX5_editPop_X0_remember : GoodIn wsX5_editPop (wsV RX5 71 RX0 yX0_remember wsX0_remember) := goodIn_app (goodIn_of _ (by decide +kernel)) ggX5_editPop_X0_remember
set_option maxRecDepth 20000 in
theorem ggX5_editPop_X2_editRemoveLast : GoodIn wsX5_editPop wsX2_editRemoveLast := goodIn_r _ [33, 27, 29, 34, 35, 36, 37, 38, 39, 40, 41, 42, 43, 44, 45, 46, 47, 48, 49, 50, 51, 52, 53, 54, 55, 56, 57, 58, 59, 60, 61, 62, 63, 64, 65, 66, 67, 68, 69, 70, 71, 72, 73, 74, 75, 76, 77, 78, 79, 80, 81, 82, 83, 84, 85, 86, 87, 88, 89, 90, 91, 92, 93, 94, 95, 96, 97, 98, 99, 100, 101, 23, 102, 28, 109, 110, 111, 112, 113, 114, 115, 116] (by decide +kernel) (by decide +kernel)
set_option maxRecDepth 20000 in
theorem gX5_editPop_X2_editRemoveLast : GoodIn wsX5_editPop (wsV RX5 119 RX2 yX2_editRemoveLast wsX2_editRemoveLast) := goodIn_app (goodIn_of _ (by decide +kernel)) ggX5_editPop_X2_editRemoveLast
theorem dX5_editPop_0 : decode cX5_editPop 0 = .ok (.aload_n 0, 1) := by decide +kernel
theorem dX5_editPop_1 : decode cX5_editPop 1 = .ok (.getfield 10, 3) := by decide +kernel
theorem dX5_editPop_4 : decode cX5_editPop 4 = .ok (.getfield 105, 3) := by decide +kernel
theorem dX5_editPop_7 : decode cX5_editPop 7 = .ok (.astore_n 1, 1) := by decide +kernel
theorem dX5_editPop_8 : decode cX5_editPop 8 = .ok (.aload_n 1, 1) := by decide +kernel
theorem dX5_editPop_9 : decode cX5_editPop 9 = .ok (.ifnull 10, 3) := by decide +kernel
theorem dX5_editPop_12 : decode cX5_editPop 12 = .ok (.aload_n 1, 1) := by decide +kernel
theorem dX5_editPop_13 : decode cX5_editPop 13 = .ok (.getfield 112, 3) := by decide +kernel
theorem dX5_editPop_16 : decode cX5_editPop 16 = .ok (.ifCond .ne 6, 3) := by decide +kernel
theorem dX5_editPop_19 : decode cX5_editPop 19 = .ok (.bipush (-4), 2) := by decide +kernel
theorem dX5_editPop_21 : decode cX5_editPop 21 = .ok (.ireturn, 1) := by decide +kernel
theorem dX5_editPop_22 : decode cX5_editPop 22 = .ok (.aload_n 0, 1) := by decide +kernel
theorem dX5_editPop_23 : decode cX5_editPop 23 = .ok (.getfield 26, 3) := by decide +kernel
theorem dX5_editPop_26 : decode cX5_editPop 26 = .ok (.aload_n 0, 1) := by decide +kernel
theorem dX5_editPop_27 : decode cX5_editPop 27 = .ok (.getfield 10, 3) := by decide +kernel
theorem dX5_editPop_30 : decode cX5_editPop 30 = .ok (.invokevirtual 71, 3) := by decide +kernel
theorem dX5_editPop_33 : decode cX5_editPop 33 = .ok (.aload_n 0, 1) := by decide +kernel
theorem dX5_editPop_34 : decode cX5_editPop 34 = .ok (.getfield 10, 3) := by decide +kernel
theorem dX5_editPop_37 : decode cX5_editPop 37 = .ok (.aload_n 1, 1) := by decide +kernel
theorem dX5_editPop_38 : decode cX5_editPop 38 = .ok (.invokevirtual 119, 3) := by decide +kernel
theorem dX5_editPop_41 : decode cX5_editPop 41 = .ok (.ireturn, 1) := by decide +kernel
set_option maxRecDepth 20000 in
theorem ggX5_editRead_X3_fault : GoodIn wsX5_editRead wsX3_fault := goodIn_r _ [10, 11, 12, 13, 14, 9, 15, 16, 17, 18, 19, 138, 139] (by decide +kernel) (by decide +kernel)
set_option maxRecDepth 20000 in
theorem gX5_editRead_X3_fault : GoodIn wsX5_editRead (wsV RX5 123 RX3 yX3_fault wsX3_fault) := goodIn_app (goodIn_of _ (by decide +kernel)) ggX5_editRead_X3_fault
set_option maxRecDepth 20000 in
theorem ggX5_editRead_X3_values : GoodIn wsX5_editRead wsX3_values := goodIn_r _ [23, 24, 11, 25, 26, 27, 9, 28, 12, 13, 14, 15, 16, 138, 139] (by decide +kernel) (by decide +kernel)
set_option maxRecDepth 20000 in
theorem gX5_editRead_X3_values : GoodIn wsX5_editRead (wsV RX5 126 RX3 yX3_values wsX3_values) := goodIn_app (goodIn_of _ (by decide +kernel)) ggX5_editRead_X3_values
set_option maxRecDepth 20000 in
theorem ggX5_editRead_X0_remember : GoodIn wsX5_editRead wsX0_remember := goodIn_r _ [33, 34, 35, 36, 37, 32, 38, 39, 40, 41, 42, 43, 44, 45, 46, 47, 48, 49, 50, 51, 52, 53, 140, 141, 130, 131, 132, 133, 134] (by decide +kernel) (by decide +kernel)
set_option maxRecDepth 20000 in
theorem gX5_editRead_X0_remember : GoodIn wsX5_editRead (wsV RX5 71 RX0 yX0_remember wsX0_remember) := goodIn_app (goodIn_of _ (by decide +kernel)) ggX5_editRead_X0_remember
set_option maxRecDepth 20000 in
theorem ggX5_editRead_X2_editAppendAll : GoodIn wsX5_editRead wsX2_editAppendAll := goodIn_r _ [57, 58, 51, 53, 59, 60, 61, 62, 63, 64, 65, 66, 67, 68, 69, 70, 71, 72, 73, 74, 75, 76, 77, 78, 79, 24, 80, 81, 82, 83, 84, 85, 86, 87, 88, 89, 90, 91, 92, 93, 94, 95, 96, 97, 98, 99, 100, 101, 102, 103, 104, 105, 106, 107, 108, 109, 110, 111, 112, 113, 114, 115, 116, 117, 118, 119, 120, 121, 122, 47, 123, 52, 135, 136, 137, 130, 131, 132, 133, 134] (by decide +kernel) (by decide +kernel)
set_option maxRecDepth 20000 in
theorem gX5_editRead_X2_editAppendAll : GoodIn wsX5_editRead (wsV RX5 130 RX2 yX2_editAppendAll wsX2_editAppendAll) := goodIn_app (goodIn_of _ (by decide +kernel)) ggX5_editRead_X2_editAppendAll
theorem dX5_editRead_0 : decode cX5_editRead 0 = .ok (.aload_n 0, 1) := by decide +kernel
theorem dX5_editRead_1 : decode cX5_editRead 1 = .ok (.getfield 10, 3) := by decide +kernel
theorem dX5_editRead_4 : decode cX5_editRead 4 = .ok (.getfield 105, 3) := by decide +kernel
theorem dX5_editRead_7 : decode cX5_editRead 7 = .ok (.astore_n 1, 1) := by decide +kernel
theorem dX5_editRead_8 : decode cX5_editRead 8 = .ok (.aload_n 1, 1) := by decide +kernel
theorem dX5_editRead_9 : decode cX5_editRead 9 = .ok (.ifnonnull 6, 3) := by decide +kernel
theorem dX5_editRead_12 : decode cX5_editRead 12 = .ok (.bipush (-4), 2) := by decide +kernel
theorem dX5_editRead_14 : decode cX5_editRead 14 = .ok (.ireturn, 1) := by decide +kernel
theorem dX5_editRead_15 : decode cX5_editRead 15 = .ok (.aload_n 0, 1) := by decide +kernel
theorem dX5_editRead_16 : decode cX5_editRead 16 = .ok (.getfield 33, 3) := by decide +kernel
theorem dX5_editRead_19 : decode cX5_editRead 19 = .ok (.invokevirtual 123, 3) := by decide +kernel
theorem dX5_editRead_22 : decode cX5_editRead 22 = .ok (.istore_n 2, 1) := by decide +kernel
theorem dX5_editRead_23 : decode cX5_editRead 23 = .ok (.iload_n 2, 1) := by decide +kernel
theorem dX5_editRead_24 : decode cX5_editRead 24 = .ok (.iconst (-1), 1) := by decide +kernel
theorem dX5_editRead_25 : decode cX5_editRead 25 = .ok (.if_icmp .eq 8, 3) := by decide +kernel
theorem dX5_editRead_28 : decode cX5_editRead 28 = .ok (.bipush (-100), 2) := by decide +kernel
theorem dX5_editRead_30 : decode cX5_editRead 30 = .ok (.iload_n 2, 1) := by decide +kernel
theorem dX5_editRead_31 : decode cX5_editRead 31 = .ok (.isub, 1) := by decide +kernel
theorem dX5_editRead_32 : decode cX5_editRead 32 = .ok (.ireturn, 1) := by decide +kernel
theorem dX5_editRead_33 : decode cX5_editRead 33 = .ok (.aload_n 0, 1) := by decide +kernel
theorem dX5_editRead_34 : decode cX5_editRead 34 = .ok (.getfield 33, 3) := by decide +kernel
theorem dX5_editRead_37 : decode cX5_editRead 37 = .ok (.invokevirtual 126, 3) := by decide +kernel
theorem dX5_editRead_40 : decode cX5_editRead 40 = .ok (.astore_n 3, 1) := by decide +kernel
theorem dX5_editRead_41 : decode cX5_editRead 41 = .ok (.aload_n 1, 1) := by decide +kernel
theorem dX5_editRead_42 : decode cX5_editRead 42 = .ok (.getfield 112, 3) := by decide +kernel
theorem dX5_editRead_45 : decode cX5_editRead 45 = .ok (.aload_n 3, 1) := by decide +kernel
theorem dX5_editRead_46 : decode cX5_editRead 46 = .ok (.arraylength, 1) := by decide +kernel
theorem dX5_editRead_47 : decode cX5_editRead 47 = .ok (.iadd, 1) := by decide +kernel
theorem dX5_editRead_48 : decode cX5_editRead 48 = .ok (.sipush 300, 3) := by decide +kernel
theorem dX5_editRead_51 : decode cX5_editRead 51 = .ok (.if_icmp .le 6, 3) := by decide +kernel
theorem dX5_editRead_54 : decode cX5_editRead 54 = .ok (.bipush (-3), 2) := by decide +kernel
theorem dX5_editRead_56 : decode cX5_editRead 56 = .ok (.ireturn, 1) := by decide +kernel
theorem dX5_editRead_57 : decode cX5_editRead 57 = .ok (.aload_n 0, 1) := by decide +kernel
theorem dX5_editRead_58 : decode cX5_editRead 58 = .ok (.getfield 26, 3) := by decide +kernel
theorem dX5_editRead_61 : decode cX5_editRead 61 = .ok (.aload_n 0, 1) := by decide +kernel
theorem dX5_editRead_62 : decode cX5_editRead 62 = .ok (.getfield 10, 3) := by decide +kernel
theorem dX5_editRead_65 : decode cX5_editRead 65 = .ok (.invokevirtual 71, 3) := by decide +kernel
theorem dX5_editRead_68 : decode cX5_editRead 68 = .ok (.aload_n 0, 1) := by decide +kernel
theorem dX5_editRead_69 : decode cX5_editRead 69 = .ok (.getfield 10, 3) := by decide +kernel
theorem dX5_editRead_72 : decode cX5_editRead 72 = .ok (.aload_n 1, 1) := by decide +kernel
theorem dX5_editRead_73 : decode cX5_editRead 73 = .ok (.aload_n 3, 1) := by decide +kernel
theorem dX5_editRead_74 : decode cX5_editRead 74 = .ok (.invokevirtual 130, 3) := by decide +kernel
theorem dX5_editRead_77 : decode cX5_editRead 77 = .ok (.ireturn, 1) := by decide +kernel
set_option maxRecDepth 20000 in
theorem ggX5_finish_X2_isFull : GoodIn wsX5_finish wsX2_isFull := goodIn_r _ [12, 13, 62, 63, 64, 65, 66] (by decide +kernel) (by decide +kernel)
set_option maxRecDepth 20000 in
theorem gX5_finish_X2_isFull : GoodIn wsX5_finish (wsV RX5 63 RX2 yX2_isFull wsX2_isFull) := goodIn_app (goodIn_of _ (by decide +kernel)) ggX5_finish_X2_isFull
set_option maxRecDepth 20000 in
theorem ggX5_finish_X0_remember : GoodIn wsX5_finish wsX0_remember := goodIn_r _ [18, 19, 20, 21, 22, 17, 23, 24, 25, 26, 27, 28, 29, 30, 31, 11, 32, 33, 13, 34, 35, 36, 74, 75, 62, 63, 64, 65, 66] (by decide +kernel) (by decide +kernel)
set_option maxRecDepth 20000 in
theorem gX5_finish_X0_remember : GoodIn wsX5_finish (wsV RX5 71 RX0 yX0_remember wsX0_remember) := goodIn_app (goodIn_of _ (by decide +kernel)) ggX5_finish_X0_remember
set_option maxRecDepth 20000 in
theorem ggX5_finish_X2_endEdit : GoodIn wsX5_finish wsX2_endEdit := goodIn_r _ [40, 35, 41, 36, 62, 63, 64, 65, 66] (by decide +kernel) (by decide +kernel)
set_option maxRecDepth 20000 in
theorem gX5_finish_X2_endEdit : GoodIn wsX5_finish (wsV RX5 134 RX2 yX2_endEdit wsX2_endEdit) := goodIn_app (goodIn_of _ (by decide +kernel)) ggX5_finish_X2_endEdit
set_option maxRecDepth 20000 in
theorem ggX5_finish_X4_init : GoodIn wsX5_finish wsX4_init := goodIn_r _ [44, 45, 46, 47, 48, 49, 50, 51, 67, 68, 69, 70] (by decide +kernel) (by decide +kernel)
set_option maxRecDepth 20000 in
theorem gX5_finish_X4_init : GoodIn wsX5_finish (wsX4_init) := ggX5_finish_X4_init
set_option maxRecDepth 20000 in
theorem ggX5_finish_X2_addView : GoodIn wsX5_finish wsX2_addView := goodIn_r _ [55, 13, 33, 62, 63, 64, 65, 66] (by decide +kernel) (by decide +kernel)
set_option maxRecDepth 20000 in
theorem gX5_finish_X2_addView : GoodIn wsX5_finish (wsV RX5 51 RX2 yX2_addView wsX2_addView) := goodIn_app (goodIn_of _ (by decide +kernel)) ggX5_finish_X2_addView
theorem dX5_finish_0 : decode cX5_finish 0 = .ok (.aload_n 0, 1) := by decide +kernel
theorem dX5_finish_1 : decode cX5_finish 1 = .ok (.getfield 10, 3) := by decide +kernel
theorem dX5_finish_4 : decode cX5_finish 4 = .ok (.getfield 105, 3) := by decide +kernel
theorem dX5_finish_7 : decode cX5_finish 7 = .ok (.astore_n 1, 1) := by decide +kernel
theorem dX5_finish_8 : decode cX5_finish 8 = .ok (.aload_n 1, 1) := by decide +kernel
theorem dX5_finish_9 : decode cX5_finish 9 = .ok (.ifnonnull 6, 3) := by decide +kernel
theorem dX5_finish_12 : decode cX5_finish 12 = .ok (.bipush (-4), 2) := by decide +kernel
theorem dX5_finish_14 : decode cX5_finish 14 = .ok (.ireturn, 1) := by decide +kernel
theorem dX5_finish_15 : decode cX5_finish 15 = .ok (.aload_n 0, 1) := by decide +kernel
theorem dX5_finish_16 : decode cX5_finish 16 = .ok (.getfield 10, 3) := by decide +kernel
theorem dX5_finish_19 : decode cX5_finish 19 = .ok (.invokevirtual 63, 3) := by decide +kernel
theorem dX5_finish_22 : decode cX5_finish 22 = .ok (.ifCond .eq 6, 3) := by decide +kernel
theorem dX5_finish_25 : decode cX5_finish 25 = .ok (.bipush (-3), 2) := by decide +kernel
theorem dX5_finish_27 : decode cX5_finish 27 = .ok (.ireturn, 1) := by decide +kernel
theorem dX5_finish_28 : decode cX5_finish 28 = .ok (.aload_n 0, 1) := by decide +kernel
theorem dX5_finish_29 : decode cX5_finish 29 = .ok (.getfield 26, 3) := by decide +kernel
theorem dX5_finish_32 : decode cX5_finish 32 = .ok (.aload_n 0, 1) := by decide +kernel
theorem dX5_finish_33 : decode cX5_finish 33 = .ok (.getfield 10, 3) := by decide +kernel
theorem dX5_finish_36 : decode cX5_finish 36 = .ok (.invokevirtual 71, 3) := by decide +kernel
theorem dX5_finish_39 : decode cX5_finish 39 = .ok (.aload_n 0, 1) := by decide +kernel
theorem dX5_finish_40 : decode cX5_finish 40 = .ok (.getfield 10, 3) := by decide +kernel
theorem dX5_finish_43 : decode cX5_finish 43 = .ok (.invokevirtual 134, 3) := by decide +kernel
theorem dX5_finish_46 : decode cX5_finish 46 = .ok (.aload_n 0, 1) := by decide +kernel
theorem dX5_finish_47 : decode cX5_finish 47 = .ok (.getfield 10, 3) := by decide +kernel
theorem dX5_finish_50 : decode cX5_finish 50 = .ok (.new 46, 3) := by decide +kernel
theorem dX5_finish_53 : decode cX5_finish 53 = .ok (.dup, 1) := by decide +kernel
theorem dX5_finish_54 : decode cX5_finish 54 = .ok (.aload_n 1, 1) := by decide +kernel
theorem dX5_finish_55 : decode cX5_finish 55 = .ok (.iconst 0, 1) := by decide +kernel
theorem dX5_finish_56 : decode cX5_finish 56 = .ok (.iconst 0, 1) := by decide +kernel
theorem dX5_finish_57 : decode cX5_finish 57 = .ok (.aload_n 1, 1) := by decide +kernel
theorem dX5_finish_58 : decode cX5_finish 58 = .ok (.getfield 112, 3) := by decide +kernel
theorem dX5_finish_61 : decode cX5_finish 61 = .ok (.invokespecial 48, 3) := by decide +kernel
theorem dX5_finish_64 : decode cX5_finish 64 = .ok (.invokevirtual 51, 3) := by decide +kernel
theorem dX5_finish_67 : decode cX5_finish 67 = .ok (.ireturn, 1) := by decide +kernel
set_option maxRecDepth 20000 in
theorem ggX5_abandon_X0_remember : GoodIn wsX5_abandon wsX0_remember := goodIn_r _ [9, 10, 11, 12, 13, 8, 14, 15, 16, 17, 18, 19, 20, 21, 22, 23, 24, 25, 26, 27, 28, 29, 49, 50, 41, 42, 43, 44, 45] (by decide +kernel) (by decide +kernel)
set_option maxRecDepth 20000 in
theorem gX5_abandon_X0_remember : GoodIn wsX5_abandon (wsV RX5 71 RX0 yX0_remember wsX0_remember) := goodIn_app (goodIn_of _ (by decide +kernel)) ggX5_abandon_X0_remember
set_option maxRecDepth 20000 in
theorem ggX5_abandon_X2_endEdit : GoodIn wsX5_abandon wsX2_endEdit := goodIn_r _ [33, 28, 34, 29, 41, 42, 43, 44, 45] (by decide +kernel) (by decide +kernel)
set_option maxRecDepth 20000 in
theorem gX5_abandon_X2_endEdit : GoodIn wsX5_abandon (wsV RX5 134 RX2 yX2_endEdit wsX2_endEdit) := goodIn_app (goodIn_of _ (by decide +kernel)) ggX5_abandon_X2_endEdit
theorem dX5_abandon_0 : decode cX5_abandon 0 = .ok (.aload_n 0, 1) := by decide +kernel
theorem dX5_abandon_1 : decode cX5_abandon 1 = .ok (.getfield 10, 3) := by decide +kernel
theorem dX5_abandon_4 : decode cX5_abandon 4 = .ok (.getfield 105, 3) := by decide +kernel
theorem dX5_abandon_7 : decode cX5_abandon 7 = .ok (.astore_n 1, 1) := by decide +kernel
theorem dX5_abandon_8 : decode cX5_abandon 8 = .ok (.aload_n 1, 1) := by decide +kernel
theorem dX5_abandon_9 : decode cX5_abandon 9 = .ok (.ifnonnull 6, 3) := by decide +kernel
theorem dX5_abandon_12 : decode cX5_abandon 12 = .ok (.bipush (-4), 2) := by decide +kernel
theorem dX5_abandon_14 : decode cX5_abandon 14 = .ok (.ireturn, 1) := by decide +kernel
theorem dX5_abandon_15 : decode cX5_abandon 15 = .ok (.aload_n 0, 1) := by decide +kernel
theorem dX5_abandon_16 : decode cX5_abandon 16 = .ok (.getfield 26, 3) := by decide +kernel
theorem dX5_abandon_19 : decode cX5_abandon 19 = .ok (.aload_n 0, 1) := by decide +kernel
theorem dX5_abandon_20 : decode cX5_abandon 20 = .ok (.getfield 10, 3) := by decide +kernel
theorem dX5_abandon_23 : decode cX5_abandon 23 = .ok (.invokevirtual 71, 3) := by decide +kernel
theorem dX5_abandon_26 : decode cX5_abandon 26 = .ok (.aload_n 0, 1) := by decide +kernel
theorem dX5_abandon_27 : decode cX5_abandon 27 = .ok (.getfield 10, 3) := by decide +kernel
theorem dX5_abandon_30 : decode cX5_abandon 30 = .ok (.invokevirtual 134, 3) := by decide +kernel
theorem dX5_abandon_33 : decode cX5_abandon 33 = .ok (.aload_n 1, 1) := by decide +kernel
theorem dX5_abandon_34 : decode cX5_abandon 34 = .ok (.getfield 112, 3) := by decide +kernel
theorem dX5_abandon_37 : decode cX5_abandon 37 = .ok (.ireturn, 1) := by decide +kernel
set_option maxRecDepth 20000 in
theorem ggX5_type_X3_add : GoodIn wsX5_type wsX3_add := goodIn_r _ [7, 8, 9, 16, 17] (by decide +kernel) (by decide +kernel)
set_option maxRecDepth 20000 in
theorem gX5_type_X3_add : GoodIn wsX5_type (wsV RX5 137 RX3 yX3_add wsX3_add) := goodIn_app (goodIn_of _ (by decide +kernel)) ggX5_type_X3_add
theorem dX5_type_0 : decode cX5_type 0 = .ok (.aload_n 0, 1) := by decide +kernel
theorem dX5_type_1 : decode cX5_type 1 = .ok (.getfield 33, 3) := by decide +kernel
theorem dX5_type_4 : decode cX5_type 4 = .ok (.iload_n 1, 1) := by decide +kernel
theorem dX5_type_5 : decode cX5_type 5 = .ok (.invokevirtual 137, 3) := by decide +kernel
theorem dX5_type_8 : decode cX5_type 8 = .ok (.ifCond .eq 13, 3) := by decide +kernel
theorem dX5_type_11 : decode cX5_type 11 = .ok (.aload_n 0, 1) := by decide +kernel
theorem dX5_type_12 : decode cX5_type 12 = .ok (.getfield 33, 3) := by decide +kernel
theorem dX5_type_15 : decode cX5_type 15 = .ok (.getfield 141, 3) := by decide +kernel
theorem dX5_type_18 : decode cX5_type 18 = .ok (.goto 5, 3) := by decide +kernel
theorem dX5_type_21 : decode cX5_type 21 = .ok (.bipush (-3), 2) := by decide +kernel
theorem dX5_type_23 : decode cX5_type 23 = .ok (.ireturn, 1) := by decide +kernel
set_option maxRecDepth 20000 in
theorem ggX5_clearText_X3_empty : GoodIn wsX5_clearText wsX3_empty := goodIn_r _ [7, 8, 15, 16] (by decide +kernel) (by decide +kernel)
set_option maxRecDepth 20000 in
theorem gX5_clearText_X3_empty : GoodIn wsX5_clearText (wsV RX5 142 RX3 yX3_empty wsX3_empty) := goodIn_app (goodIn_of _ (by decide +kernel)) ggX5_clearText_X3_empty
theorem dX5_clearText_0 : decode cX5_clearText 0 = .ok (.aload_n 0, 1) := by decide +kernel
theorem dX5_clearText_1 : decode cX5_clearText 1 = .ok (.getfield 33, 3) := by decide +kernel
theorem dX5_clearText_4 : decode cX5_clearText 4 = .ok (.getfield 141, 3) := by decide +kernel
theorem dX5_clearText_7 : decode cX5_clearText 7 = .ok (.istore_n 1, 1) := by decide +kernel
theorem dX5_clearText_8 : decode cX5_clearText 8 = .ok (.aload_n 0, 1) := by decide +kernel
theorem dX5_clearText_9 : decode cX5_clearText 9 = .ok (.getfield 33, 3) := by decide +kernel
theorem dX5_clearText_12 : decode cX5_clearText 12 = .ok (.invokevirtual 142, 3) := by decide +kernel
theorem dX5_clearText_15 : decode cX5_clearText 15 = .ok (.iload_n 1, 1) := by decide +kernel
theorem dX5_clearText_16 : decode cX5_clearText 16 = .ok (.ireturn, 1) := by decide +kernel
set_option maxRecDepth 20000 in
theorem ggX5_undo_X0_takeBack : GoodIn wsX5_undo wsX0_takeBack := goodIn_r _ [8, 9, 10, 11, 12, 7, 13, 14, 15, 16, 17, 18, 19, 20, 21, 22, 23, 24, 31, 32, 33, 34, 35, 36, 37] (by decide +kernel) (by decide +kernel)
set_option maxRecDepth 20000 in
theorem gX5_undo_X0_takeBack : GoodIn wsX5_undo (wsV RX5 146 RX0 yX0_takeBack wsX0_takeBack) := goodIn_app (goodIn_of _ (by decide +kernel)) ggX5_undo_X0_takeBack
theorem dX5_undo_0 : decode cX5_undo 0 = .ok (.aload_n 0, 1) := by decide +kernel
theorem dX5_undo_1 : decode cX5_undo 1 = .ok (.getfield 26, 3) := by decide +kernel
theorem dX5_undo_4 : decode cX5_undo 4 = .ok (.getfield 145, 3) := by decide +kernel
theorem dX5_undo_7 : decode cX5_undo 7 = .ok (.ifCond .ne 6, 3) := by decide +kernel
theorem dX5_undo_10 : decode cX5_undo 10 = .ok (.bipush (-5), 2) := by decide +kernel
theorem dX5_undo_12 : decode cX5_undo 12 = .ok (.ireturn, 1) := by decide +kernel
theorem dX5_undo_13 : decode cX5_undo 13 = .ok (.aload_n 0, 1) := by decide +kernel
theorem dX5_undo_14 : decode cX5_undo 14 = .ok (.getfield 26, 3) := by decide +kernel
theorem dX5_undo_17 : decode cX5_undo 17 = .ok (.aload_n 0, 1) := by decide +kernel
theorem dX5_undo_18 : decode cX5_undo 18 = .ok (.getfield 10, 3) := by decide +kernel
theorem dX5_undo_21 : decode cX5_undo 21 = .ok (.invokevirtual 146, 3) := by decide +kernel
theorem dX5_undo_24 : decode cX5_undo 24 = .ok (.aload_n 0, 1) := by decide +kernel
theorem dX5_undo_25 : decode cX5_undo 25 = .ok (.getfield 26, 3) := by decide +kernel
theorem dX5_undo_28 : decode cX5_undo 28 = .ok (.getfield 145, 3) := by decide +kernel
theorem dX5_undo_31 : decode cX5_undo 31 = .ok (.ireturn, 1) := by decide +kernel
set_option maxRecDepth 20000 in
theorem ggX5_keep_X2_copyFrom : GoodIn wsX5_keep wsX2_copyFrom := goodIn_r _ [9, 10, 11, 12, 13, 14, 21, 22, 23, 24, 25] (by decide +kernel) (by decide +kernel)
set_option maxRecDepth 20000 in
theorem gX5_keep_X2_copyFrom : GoodIn wsX5_keep (wsV RX5 149 RX2 yX2_copyFrom wsX2_copyFrom) := goodIn_app (goodIn_of _ (by decide +kernel)) ggX5_keep_X2_copyFrom
theorem dX5_keep_0 : decode cX5_keep 0 = .ok (.aload_n 0, 1) := by decide +kernel
theorem dX5_keep_1 : decode cX5_keep 1 = .ok (.getfield 16, 3) := by decide +kernel
theorem dX5_keep_4 : decode cX5_keep 4 = .ok (.aload_n 0, 1) := by decide +kernel
theorem dX5_keep_5 : decode cX5_keep 5 = .ok (.getfield 10, 3) := by decide +kernel
theorem dX5_keep_8 : decode cX5_keep 8 = .ok (.invokevirtual 149, 3) := by decide +kernel
theorem dX5_keep_11 : decode cX5_keep 11 = .ok (.aload_n 0, 1) := by decide +kernel
theorem dX5_keep_12 : decode cX5_keep 12 = .ok (.iconst 1, 1) := by decide +kernel
theorem dX5_keep_13 : decode cX5_keep 13 = .ok (.putfield 19, 3) := by decide +kernel
theorem dX5_keep_16 : decode cX5_keep 16 = .ok (.aload_n 0, 1) := by decide +kernel
theorem dX5_keep_17 : decode cX5_keep 17 = .ok (.getfield 10, 3) := by decide +kernel
theorem dX5_keep_20 : decode cX5_keep 20 = .ok (.getfield 152, 3) := by decide +kernel
theorem dX5_keep_23 : decode cX5_keep 23 = .ok (.ireturn, 1) := by decide +kernel
set_option maxRecDepth 20000 in
theorem ggX5_restore_X0_remember : GoodIn wsX5_restore wsX0_remember := goodIn_r _ [10, 11, 12, 13, 14, 9, 15, 16, 17, 18, 19, 20, 21, 22, 23, 24, 25, 26, 27, 28, 29, 30, 43, 44, 38, 39, 40, 41, 42] (by decide +kernel) (by decide +kernel)
set_option maxRecDepth 20000 in
theorem gX5_restore_X0_remember : GoodIn wsX5_restore (wsV RX5 71 RX0 yX0_remember wsX0_remember) := goodIn_app (goodIn_of _ (by decide +kernel)) ggX5_restore_X0_remember
set_option maxRecDepth 20000 in
theorem ggX5_restore_X2_copyFrom : GoodIn wsX5_restore wsX2_copyFrom := goodIn_r _ [25, 26, 27, 28, 29, 30, 38, 39, 40, 41, 42] (by decide +kernel) (by decide +kernel)
set_option maxRecDepth 20000 in
theorem gX5_restore_X2_copyFrom : GoodIn wsX5_restore (wsV RX5 149 RX2 yX2_copyFrom wsX2_copyFrom) := goodIn_app (goodIn_of _ (by decide +kernel)) ggX5_restore_X2_copyFrom
theorem dX5_restore_0 : decode cX5_restore 0 = .ok (.aload_n 0, 1) := by decide +kernel
theorem dX5_restore_1 : decode cX5_restore 1 = .ok (.getfield 19, 3) := by decide +kernel
theorem dX5_restore_4 : decode cX5_restore 4 = .ok (.ifCond .ne 6, 3) := by decide +kernel
theorem dX5_restore_7 : decode cX5_restore 7 = .ok (.bipush (-5), 2) := by decide +kernel
theorem dX5_restore_9 : decode cX5_restore 9 = .ok (.ireturn, 1) := by decide +kernel
theorem dX5_restore_10 : decode cX5_restore 10 = .ok (.aload_n 0, 1) := by decide +kernel
theorem dX5_restore_11 : decode cX5_restore 11 = .ok (.getfield 26, 3) := by decide +kernel
theorem dX5_restore_14 : decode cX5_restore 14 = .ok (.aload_n 0, 1) := by decide +kernel
theorem dX5_restore_15 : decode cX5_restore 15 = .ok (.getfield 10, 3) := by decide +kernel
theorem dX5_restore_18 : decode cX5_restore 18 = .ok (.invokevirtual 71, 3) := by decide +kernel
theorem dX5_restore_21 : decode cX5_restore 21 = .ok (.aload_n 0, 1) := by decide +kernel
theorem dX5_restore_22 : decode cX5_restore 22 = .ok (.getfield 10, 3) := by decide +kernel
theorem dX5_restore_25 : decode cX5_restore 25 = .ok (.aload_n 0, 1) := by decide +kernel
theorem dX5_restore_26 : decode cX5_restore 26 = .ok (.getfield 16, 3) := by decide +kernel
theorem dX5_restore_29 : decode cX5_restore 29 = .ok (.invokevirtual 149, 3) := by decide +kernel
theorem dX5_restore_32 : decode cX5_restore 32 = .ok (.aload_n 0, 1) := by decide +kernel
theorem dX5_restore_33 : decode cX5_restore 33 = .ok (.getfield 10, 3) := by decide +kernel
theorem dX5_restore_36 : decode cX5_restore 36 = .ok (.getfield 152, 3) := by decide +kernel
theorem dX5_restore_39 : decode cX5_restore 39 = .ok (.ireturn, 1) := by decide +kernel
set_option maxRecDepth 20000 in
theorem ggX5_get_X2_viewOf : GoodIn wsX5_get wsX2_viewOf := goodIn_r _ [6, 7, 27, 28, 29, 30, 31] (by decide +kernel) (by decide +kernel)
set_option maxRecDepth 20000 in
theorem gX5_get_X2_viewOf : GoodIn wsX5_get (wsV RX5 55 RX2 yX2_viewOf wsX2_viewOf) := goodIn_app (goodIn_of _ (by decide +kernel)) ggX5_get_X2_viewOf
set_option maxRecDepth 20000 in
theorem ggX5_get_X4_shows : GoodIn wsX5_get wsX4_shows := goodIn_r _ [12, 13, 32, 33, 34, 35] (by decide +kernel) (by decide +kernel)
set_option maxRecDepth 20000 in
theorem gX5_get_X4_shows : GoodIn wsX5_get (wsV RX5 92 RX4 yX4_shows wsX4_shows) := goodIn_app (goodIn_of _ (by decide +kernel)) ggX5_get_X4_shows
set_option maxRecDepth 20000 in
theorem ggX5_get_X4_valueAt : GoodIn wsX5_get wsX4_valueAt := goodIn_r _ [17, 18, 19, 20, 32, 33, 34, 35, 36, 37, 38] (by decide +kernel) (by decide +kernel)
set_option maxRecDepth 20000 in
theorem gX5_get_X4_valueAt : GoodIn wsX5_get (wsV RX5 155 RX4 yX4_valueAt wsX4_valueAt) := goodIn_app (goodIn_of _ (by decide +kernel)) ggX5_get_X4_valueAt
theorem dX5_get_0 : decode cX5_get 0 = .ok (.aload_n 0, 1) := by decide +kernel
theorem dX5_get_1 : decode cX5_get 1 = .ok (.getfield 10, 3) := by decide +kernel
theorem dX5_get_4 : decode cX5_get 4 = .ok (.iload_n 1, 1) := by decide +kernel
theorem dX5_get_5 : decode cX5_get 5 = .ok (.invokevirtual 55, 3) := by decide +kernel
theorem dX5_get_8 : decode cX5_get 8 = .ok (.astore_n 3, 1) := by decide +kernel
theorem dX5_get_9 : decode cX5_get 9 = .ok (.aload_n 3, 1) := by decide +kernel
theorem dX5_get_10 : decode cX5_get 10 = .ok (.ifnull 11, 3) := by decide +kernel
theorem dX5_get_13 : decode cX5_get 13 = .ok (.aload_n 3, 1) := by decide +kernel
theorem dX5_get_14 : decode cX5_get 14 = .ok (.iload_n 2, 1) := by decide +kernel
theorem dX5_get_15 : decode cX5_get 15 = .ok (.invokevirtual 92, 3) := by decide +kernel
theorem dX5_get_18 : decode cX5_get 18 = .ok (.ifCond .ne 5, 3) := by decide +kernel
theorem dX5_get_21 : decode cX5_get 21 = .ok (.iconst (-1), 1) := by decide +kernel
theorem dX5_get_22 : decode cX5_get 22 = .ok (.ireturn, 1) := by decide +kernel
theorem dX5_get_23 : decode cX5_get 23 = .ok (.aload_n 3, 1) := by decide +kernel
theorem dX5_get_24 : decode cX5_get 24 = .ok (.iload_n 2, 1) := by decide +kernel
theorem dX5_get_25 : decode cX5_get 25 = .ok (.invokevirtual 155, 3) := by decide +kernel
theorem dX5_get_28 : decode cX5_get 28 = .ok (.ireturn, 1) := by decide +kernel
set_option maxRecDepth 20000 in
theorem ggX5_vector_X2_viewOf : GoodIn wsX5_vector wsX2_viewOf := goodIn_r _ [11, 12, 71, 72, 73, 74, 75] (by decide +kernel) (by decide +kernel)
set_option maxRecDepth 20000 in
theorem gX5_vector_X2_viewOf : GoodIn wsX5_vector (wsV RX5 55 RX2 yX2_viewOf wsX2_viewOf) := goodIn_app (goodIn_of _ (by decide +kernel)) ggX5_vector_X2_viewOf
set_option maxRecDepth 20000 in
theorem ggX5_vector_X1_leaves : GoodIn wsX5_vector wsX1_leaves := goodIn_r _ [17, 18, 68, 69, 70] (by decide +kernel) (by decide +kernel)
set_option maxRecDepth 20000 in
theorem gX5_vector_X1_leaves : GoodIn wsX5_vector (wsV RX5 159 RX1 yX1_leaves wsX1_leaves) := goodIn_app (goodIn_of _ (by decide +kernel)) ggX5_vector_X1_leaves
set_option maxRecDepth 20000 in
theorem ggX5_vector_X1_blocks : GoodIn wsX5_vector wsX1_blocks := goodIn_r _ [22, 23, 24, 25, 16, 26, 27, 68, 69, 70] (by decide +kernel) (by decide +kernel)
set_option maxRecDepth 20000 in
theorem gX5_vector_X1_blocks : GoodIn wsX5_vector (wsV RX5 162 RX1 yX1_blocks wsX1_blocks) := goodIn_app (goodIn_of _ (by decide +kernel)) ggX5_vector_X1_blocks
set_option maxRecDepth 20000 in
theorem ggX5_vector_X5_rootLevel : GoodIn wsX5_vector wsX5_rootLevel := goodIn_r _ [31] (by decide +kernel) (by decide +kernel)
set_option maxRecDepth 20000 in
theorem gX5_vector_X5_rootLevel : GoodIn wsX5_vector (va_wsS RX5 165 yX5_rootLevel wsX5_rootLevel) := goodIn_app (goodIn_of _ (by decide +kernel)) ggX5_vector_X5_rootLevel
set_option maxRecDepth 20000 in
theorem ggX5_vector_X1_tail : GoodIn wsX5_vector wsX1_tail := goodIn_r _ [35, 18, 36, 14, 15, 16, 17, 68, 69, 70] (by decide +kernel) (by decide +kernel)
set_option maxRecDepth 20000 in
theorem gX5_vector_X1_tail : GoodIn wsX5_vector (wsV RX5 168 RX1 yX1_tail wsX1_tail) := goodIn_app (goodIn_of _ (by decide +kernel)) ggX5_vector_X1_tail
set_option maxRecDepth 20000 in
theorem ggX5_vector_X4_sum : GoodIn wsX5_vector wsX4_sum := goodIn_r _ [41, 42, 43, 44, 45, 40, 46, 47, 48, 49, 64, 65, 66, 67, 68, 69, 70] (by decide +kernel) (by decide +kernel)
set_option maxRecDepth 20000 in
theorem gX5_vector_X4_sum : GoodIn wsX5_vector (wsV RX5 171 RX4 yX4_sum wsX4_sum) := goodIn_app (goodIn_of _ (by decide +kernel)) ggX5_vector_X4_sum
set_option maxRecDepth 20000 in
theorem ggX5_vector_X4_greatest : GoodIn wsX5_vector wsX4_greatest := goodIn_r _ [53, 42, 54, 55, 56, 57, 43, 44, 45, 40, 46, 47, 48, 49, 64, 65, 66, 67, 68, 69, 70] (by decide +kernel) (by decide +kernel)
set_option maxRecDepth 20000 in
theorem gX5_vector_X4_greatest : GoodIn wsX5_vector (wsV RX5 174 RX4 yX4_greatest wsX4_greatest) := goodIn_app (goodIn_of _ (by decide +kernel)) ggX5_vector_X4_greatest
theorem dX5_vector_0 : decode cX5_vector 0 = .ok (.aload_n 0, 1) := by decide +kernel
theorem dX5_vector_1 : decode cX5_vector 1 = .ok (.getfield 10, 3) := by decide +kernel
theorem dX5_vector_4 : decode cX5_vector 4 = .ok (.iload_n 1, 1) := by decide +kernel
theorem dX5_vector_5 : decode cX5_vector 5 = .ok (.invokevirtual 55, 3) := by decide +kernel
theorem dX5_vector_8 : decode cX5_vector 8 = .ok (.astore_n 3, 1) := by decide +kernel
theorem dX5_vector_9 : decode cX5_vector 9 = .ok (.aload_n 3, 1) := by decide +kernel
theorem dX5_vector_10 : decode cX5_vector 10 = .ok (.ifnonnull 5, 3) := by decide +kernel
theorem dX5_vector_13 : decode cX5_vector 13 = .ok (.iconst (-1), 1) := by decide +kernel
theorem dX5_vector_14 : decode cX5_vector 14 = .ok (.ireturn, 1) := by decide +kernel
theorem dX5_vector_15 : decode cX5_vector 15 = .ok (.iload_n 2, 1) := by decide +kernel
theorem dX5_vector_16 : decode cX5_vector 16 = .ok (.tableswitch 132 0 9 #[56, 61, 74, 79, 87, 95, 103, 114, 122, 127], 56) := by decide +kernel
theorem dX5_vector_72 : decode cX5_vector 72 = .ok (.aload_n 3, 1) := by decide +kernel
theorem dX5_vector_73 : decode cX5_vector 73 = .ok (.getfield 89, 3) := by decide +kernel
theorem dX5_vector_76 : decode cX5_vector 76 = .ok (.ireturn, 1) := by decide +kernel
theorem dX5_vector_77 : decode cX5_vector 77 = .ok (.aload_n 3, 1) := by decide +kernel
theorem dX5_vector_78 : decode cX5_vector 78 = .ok (.getfield 82, 3) := by decide +kernel
theorem dX5_vector_81 : decode cX5_vector 81 = .ok (.ifCond .eq 7, 3) := by decide +kernel
theorem dX5_vector_84 : decode cX5_vector 84 = .ok (.iconst 1, 1) := by decide +kernel
theorem dX5_vector_85 : decode cX5_vector 85 = .ok (.goto 4, 3) := by decide +kernel
theorem dX5_vector_88 : decode cX5_vector 88 = .ok (.iconst 0, 1) := by decide +kernel
theorem dX5_vector_89 : decode cX5_vector 89 = .ok (.ireturn, 1) := by decide +kernel
theorem dX5_vector_90 : decode cX5_vector 90 = .ok (.aload_n 3, 1) := by decide +kernel
theorem dX5_vector_91 : decode cX5_vector 91 = .ok (.getfield 85, 3) := by decide +kernel
theorem dX5_vector_94 : decode cX5_vector 94 = .ok (.ireturn, 1) := by decide +kernel
theorem dX5_vector_95 : decode cX5_vector 95 = .ok (.aload_n 3, 1) := by decide +kernel
theorem dX5_vector_96 : decode cX5_vector 96 = .ok (.getfield 75, 3) := by decide +kernel
theorem dX5_vector_99 : decode cX5_vector 99 = .ok (.getfield 112, 3) := by decide +kernel
theorem dX5_vector_102 : decode cX5_vector 102 = .ok (.ireturn, 1) := by decide +kernel
theorem dX5_vector_103 : decode cX5_vector 103 = .ok (.aload_n 3, 1) := by decide +kernel
theorem dX5_vector_104 : decode cX5_vector 104 = .ok (.getfield 75, 3) := by decide +kernel
theorem dX5_vector_107 : decode cX5_vector 107 = .ok (.invokevirtual 159, 3) := by decide +kernel
theorem dX5_vector_110 : decode cX5_vector 110 = .ok (.ireturn, 1) := by decide +kernel
theorem dX5_vector_111 : decode cX5_vector 111 = .ok (.aload_n 3, 1) := by decide +kernel
theorem dX5_vector_112 : decode cX5_vector 112 = .ok (.getfield 75, 3) := by decide +kernel
theorem dX5_vector_115 : decode cX5_vector 115 = .ok (.invokevirtual 162, 3) := by decide +kernel
theorem dX5_vector_118 : decode cX5_vector 118 = .ok (.ireturn, 1) := by decide +kernel
theorem dX5_vector_119 : decode cX5_vector 119 = .ok (.aload_n 3, 1) := by decide +kernel
theorem dX5_vector_120 : decode cX5_vector 120 = .ok (.getfield 75, 3) := by decide +kernel
theorem dX5_vector_123 : decode cX5_vector 123 = .ok (.invokevirtual 159, 3) := by decide +kernel
theorem dX5_vector_126 : decode cX5_vector 126 = .ok (.invokestatic 165, 3) := by decide +kernel
theorem dX5_vector_129 : decode cX5_vector 129 = .ok (.ireturn, 1) := by decide +kernel
theorem dX5_vector_130 : decode cX5_vector 130 = .ok (.aload_n 3, 1) := by decide +kernel
theorem dX5_vector_131 : decode cX5_vector 131 = .ok (.getfield 75, 3) := by decide +kernel
theorem dX5_vector_134 : decode cX5_vector 134 = .ok (.invokevirtual 168, 3) := by decide +kernel
theorem dX5_vector_137 : decode cX5_vector 137 = .ok (.ireturn, 1) := by decide +kernel
theorem dX5_vector_138 : decode cX5_vector 138 = .ok (.aload_n 3, 1) := by decide +kernel
theorem dX5_vector_139 : decode cX5_vector 139 = .ok (.invokevirtual 171, 3) := by decide +kernel
theorem dX5_vector_142 : decode cX5_vector 142 = .ok (.ireturn, 1) := by decide +kernel
theorem dX5_vector_143 : decode cX5_vector 143 = .ok (.aload_n 3, 1) := by decide +kernel
theorem dX5_vector_144 : decode cX5_vector 144 = .ok (.invokevirtual 174, 3) := by decide +kernel
theorem dX5_vector_147 : decode cX5_vector 147 = .ok (.ireturn, 1) := by decide +kernel
theorem dX5_vector_148 : decode cX5_vector 148 = .ok (.bipush (-2), 2) := by decide +kernel
theorem dX5_vector_150 : decode cX5_vector 150 = .ok (.ireturn, 1) := by decide +kernel
set_option maxRecDepth 20000 in
theorem ggX5_block_X2_viewOf : GoodIn wsX5_block wsX2_viewOf := goodIn_r _ [7, 8, 28, 29, 30, 31, 32] (by decide +kernel) (by decide +kernel)
set_option maxRecDepth 20000 in
theorem gX5_block_X2_viewOf : GoodIn wsX5_block (wsV RX5 55 RX2 yX2_viewOf wsX2_viewOf) := goodIn_app (goodIn_of _ (by decide +kernel)) ggX5_block_X2_viewOf
set_option maxRecDepth 20000 in
theorem ggX5_block_X1_numberAt : GoodIn wsX5_block wsX1_numberAt := goodIn_r _ [13, 14, 15, 16, 12, 17, 33, 34, 35] (by decide +kernel) (by decide +kernel)
set_option maxRecDepth 20000 in
theorem gX5_block_X1_numberAt : GoodIn wsX5_block (wsV RX5 177 RX1 yX1_numberAt wsX1_numberAt) := goodIn_app (goodIn_of _ (by decide +kernel)) ggX5_block_X1_numberAt
theorem dX5_block_0 : decode cX5_block 0 = .ok (.aload_n 0, 1) := by decide +kernel
theorem dX5_block_1 : decode cX5_block 1 = .ok (.getfield 10, 3) := by decide +kernel
theorem dX5_block_4 : decode cX5_block 4 = .ok (.iload_n 1, 1) := by decide +kernel
theorem dX5_block_5 : decode cX5_block 5 = .ok (.invokevirtual 55, 3) := by decide +kernel
theorem dX5_block_8 : decode cX5_block 8 = .ok (.astore 4, 2) := by decide +kernel
theorem dX5_block_10 : decode cX5_block 10 = .ok (.aload 4, 2) := by decide +kernel
theorem dX5_block_12 : decode cX5_block 12 = .ok (.ifnonnull 5, 3) := by decide +kernel
theorem dX5_block_15 : decode cX5_block 15 = .ok (.iconst (-1), 1) := by decide +kernel
theorem dX5_block_16 : decode cX5_block 16 = .ok (.ireturn, 1) := by decide +kernel
theorem dX5_block_17 : decode cX5_block 17 = .ok (.iload_n 2, 1) := by decide +kernel
theorem dX5_block_18 : decode cX5_block 18 = .ok (.ifCond .lt 7, 3) := by decide +kernel
theorem dX5_block_21 : decode cX5_block 21 = .ok (.iload_n 3, 1) := by decide +kernel
theorem dX5_block_22 : decode cX5_block 22 = .ok (.ifCond .ge 6, 3) := by decide +kernel
theorem dX5_block_25 : decode cX5_block 25 = .ok (.bipush (-2), 2) := by decide +kernel
theorem dX5_block_27 : decode cX5_block 27 = .ok (.ireturn, 1) := by decide +kernel
theorem dX5_block_28 : decode cX5_block 28 = .ok (.aload 4, 2) := by decide +kernel
theorem dX5_block_30 : decode cX5_block 30 = .ok (.getfield 75, 3) := by decide +kernel
theorem dX5_block_33 : decode cX5_block 33 = .ok (.iload_n 2, 1) := by decide +kernel
theorem dX5_block_34 : decode cX5_block 34 = .ok (.iload_n 3, 1) := by decide +kernel
theorem dX5_block_35 : decode cX5_block 35 = .ok (.invokevirtual 177, 3) := by decide +kernel
theorem dX5_block_38 : decode cX5_block 38 = .ok (.ireturn, 1) := by decide +kernel
set_option maxRecDepth 20000 in
theorem ggX5_shared_X2_viewOf : GoodIn wsX5_shared wsX2_viewOf := goodIn_r _ [7, 8, 29, 30, 31, 32, 33] (by decide +kernel) (by decide +kernel)
set_option maxRecDepth 20000 in
theorem gX5_shared_X2_viewOf : GoodIn wsX5_shared (wsV RX5 55 RX2 yX2_viewOf wsX2_viewOf) := goodIn_app (goodIn_of _ (by decide +kernel)) ggX5_shared_X2_viewOf
set_option maxRecDepth 20000 in
theorem ggX5_shared_X1_sharedWith : GoodIn wsX5_shared wsX1_sharedWith := goodIn_r _ [13, 14, 15, 16, 17, 12, 18, 34, 35, 36] (by decide +kernel) (by decide +kernel)
set_option maxRecDepth 20000 in
theorem gX5_shared_X1_sharedWith : GoodIn wsX5_shared (wsV RX5 181 RX1 yX1_sharedWith wsX1_sharedWith) := goodIn_app (goodIn_of _ (by decide +kernel)) ggX5_shared_X1_sharedWith
theorem dX5_shared_0 : decode cX5_shared 0 = .ok (.aload_n 0, 1) := by decide +kernel
theorem dX5_shared_1 : decode cX5_shared 1 = .ok (.getfield 10, 3) := by decide +kernel
theorem dX5_shared_4 : decode cX5_shared 4 = .ok (.iload_n 1, 1) := by decide +kernel
theorem dX5_shared_5 : decode cX5_shared 5 = .ok (.invokevirtual 55, 3) := by decide +kernel
theorem dX5_shared_8 : decode cX5_shared 8 = .ok (.astore_n 3, 1) := by decide +kernel
theorem dX5_shared_9 : decode cX5_shared 9 = .ok (.aload_n 0, 1) := by decide +kernel
theorem dX5_shared_10 : decode cX5_shared 10 = .ok (.getfield 10, 3) := by decide +kernel
theorem dX5_shared_13 : decode cX5_shared 13 = .ok (.iload_n 2, 1) := by decide +kernel
theorem dX5_shared_14 : decode cX5_shared 14 = .ok (.invokevirtual 55, 3) := by decide +kernel
theorem dX5_shared_17 : decode cX5_shared 17 = .ok (.astore 4, 2) := by decide +kernel
theorem dX5_shared_19 : decode cX5_shared 19 = .ok (.aload_n 3, 1) := by decide +kernel
theorem dX5_shared_20 : decode cX5_shared 20 = .ok (.ifnull 8, 3) := by decide +kernel
theorem dX5_shared_23 : decode cX5_shared 23 = .ok (.aload 4, 2) := by decide +kernel
theorem dX5_shared_25 : decode cX5_shared 25 = .ok (.ifnonnull 5, 3) := by decide +kernel
theorem dX5_shared_28 : decode cX5_shared 28 = .ok (.iconst (-1), 1) := by decide +kernel
theorem dX5_shared_29 : decode cX5_shared 29 = .ok (.ireturn, 1) := by decide +kernel
theorem dX5_shared_30 : decode cX5_shared 30 = .ok (.aload_n 3, 1) := by decide +kernel
theorem dX5_shared_31 : decode cX5_shared 31 = .ok (.getfield 75, 3) := by decide +kernel
theorem dX5_shared_34 : decode cX5_shared 34 = .ok (.aload 4, 2) := by decide +kernel
theorem dX5_shared_36 : decode cX5_shared 36 = .ok (.getfield 75, 3) := by decide +kernel
theorem dX5_shared_39 : decode cX5_shared 39 = .ok (.invokevirtual 181, 3) := by decide +kernel
theorem dX5_shared_42 : decode cX5_shared 42 = .ok (.ireturn, 1) := by decide +kernel
set_option maxRecDepth 20000 in
theorem ggX5_differ_X2_viewOf : GoodIn wsX5_differ wsX2_viewOf := goodIn_r _ [6, 7, 31, 32, 33, 34, 35] (by decide +kernel) (by decide +kernel)
set_option maxRecDepth 20000 in
theorem gX5_differ_X2_viewOf : GoodIn wsX5_differ (wsV RX5 55 RX2 yX2_viewOf wsX2_viewOf) := goodIn_app (goodIn_of _ (by decide +kernel)) ggX5_differ_X2_viewOf
set_option maxRecDepth 20000 in
theorem ggX5_differ_X4_firstDifference : GoodIn wsX5_differ wsX4_firstDifference := goodIn_r _ [12, 13, 14, 15, 16, 17, 18, 19, 20, 11, 21, 22, 23, 24, 36, 37, 38, 39, 40, 41, 42] (by decide +kernel) (by decide +kernel)
set_option maxRecDepth 20000 in
theorem gX5_differ_X4_firstDifference : GoodIn wsX5_differ (wsV RX5 184 RX4 yX4_firstDifference wsX4_firstDifference) := goodIn_app (goodIn_of _ (by decide +kernel)) ggX5_differ_X4_firstDifference
theorem dX5_differ_0 : decode cX5_differ 0 = .ok (.aload_n 0, 1) := by decide +kernel
theorem dX5_differ_1 : decode cX5_differ 1 = .ok (.getfield 10, 3) := by decide +kernel
theorem dX5_differ_4 : decode cX5_differ 4 = .ok (.iload_n 1, 1) := by decide +kernel
theorem dX5_differ_5 : decode cX5_differ 5 = .ok (.invokevirtual 55, 3) := by decide +kernel
theorem dX5_differ_8 : decode cX5_differ 8 = .ok (.astore_n 3, 1) := by decide +kernel
theorem dX5_differ_9 : decode cX5_differ 9 = .ok (.aload_n 0, 1) := by decide +kernel
theorem dX5_differ_10 : decode cX5_differ 10 = .ok (.getfield 10, 3) := by decide +kernel
theorem dX5_differ_13 : decode cX5_differ 13 = .ok (.iload_n 2, 1) := by decide +kernel
theorem dX5_differ_14 : decode cX5_differ 14 = .ok (.invokevirtual 55, 3) := by decide +kernel
theorem dX5_differ_17 : decode cX5_differ 17 = .ok (.astore 4, 2) := by decide +kernel
theorem dX5_differ_19 : decode cX5_differ 19 = .ok (.aload_n 3, 1) := by decide +kernel
theorem dX5_differ_20 : decode cX5_differ 20 = .ok (.ifnull 8, 3) := by decide +kernel
theorem dX5_differ_23 : decode cX5_differ 23 = .ok (.aload 4, 2) := by decide +kernel
theorem dX5_differ_25 : decode cX5_differ 25 = .ok (.ifnonnull 5, 3) := by decide +kernel
theorem dX5_differ_28 : decode cX5_differ 28 = .ok (.iconst (-1), 1) := by decide +kernel
theorem dX5_differ_29 : decode cX5_differ 29 = .ok (.ireturn, 1) := by decide +kernel
theorem dX5_differ_30 : decode cX5_differ 30 = .ok (.aload_n 3, 1) := by decide +kernel
theorem dX5_differ_31 : decode cX5_differ 31 = .ok (.aload 4, 2) := by decide +kernel
theorem dX5_differ_33 : decode cX5_differ 33 = .ok (.invokevirtual 184, 3) := by decide +kernel
theorem dX5_differ_36 : decode cX5_differ 36 = .ok (.ireturn, 1) := by decide +kernel
set_option maxRecDepth 20000 in
theorem ggX5_find_X2_viewOf : GoodIn wsX5_find wsX2_viewOf := goodIn_r _ [6, 7, 27, 28, 29, 30, 31] (by decide +kernel) (by decide +kernel)
set_option maxRecDepth 20000 in
theorem gX5_find_X2_viewOf : GoodIn wsX5_find (wsV RX5 55 RX2 yX2_viewOf wsX2_viewOf) := goodIn_app (goodIn_of _ (by decide +kernel)) ggX5_find_X2_viewOf
set_option maxRecDepth 20000 in
theorem ggX5_find_X4_placeOf : GoodIn wsX5_find wsX4_placeOf := goodIn_r _ [12, 13, 14, 15, 16, 11, 17, 18, 19, 20, 32, 33, 34, 35, 36, 37, 38] (by decide +kernel) (by decide +kernel)
set_option maxRecDepth 20000 in
theorem gX5_find_X4_placeOf : GoodIn wsX5_find (wsV RX5 187 RX4 yX4_placeOf wsX4_placeOf) := goodIn_app (goodIn_of _ (by decide +kernel)) ggX5_find_X4_placeOf
theorem dX5_find_0 : decode cX5_find 0 = .ok (.aload_n 0, 1) := by decide +kernel
theorem dX5_find_1 : decode cX5_find 1 = .ok (.getfield 10, 3) := by decide +kernel
theorem dX5_find_4 : decode cX5_find 4 = .ok (.iload_n 1, 1) := by decide +kernel
theorem dX5_find_5 : decode cX5_find 5 = .ok (.invokevirtual 55, 3) := by decide +kernel
theorem dX5_find_8 : decode cX5_find 8 = .ok (.astore 4, 2) := by decide +kernel
theorem dX5_find_10 : decode cX5_find 10 = .ok (.aload 4, 2) := by decide +kernel
theorem dX5_find_12 : decode cX5_find 12 = .ok (.ifnonnull 5, 3) := by decide +kernel
theorem dX5_find_15 : decode cX5_find 15 = .ok (.iconst (-1), 1) := by decide +kernel
theorem dX5_find_16 : decode cX5_find 16 = .ok (.ireturn, 1) := by decide +kernel
theorem dX5_find_17 : decode cX5_find 17 = .ok (.iload_n 3, 1) := by decide +kernel
theorem dX5_find_18 : decode cX5_find 18 = .ok (.ifCond .ge 6, 3) := by decide +kernel
theorem dX5_find_21 : decode cX5_find 21 = .ok (.bipush (-2), 2) := by decide +kernel
theorem dX5_find_23 : decode cX5_find 23 = .ok (.ireturn, 1) := by decide +kernel
theorem dX5_find_24 : decode cX5_find 24 = .ok (.aload 4, 2) := by decide +kernel
theorem dX5_find_26 : decode cX5_find 26 = .ok (.iload_n 2, 1) := by decide +kernel
theorem dX5_find_27 : decode cX5_find 27 = .ok (.iload_n 3, 1) := by decide +kernel
theorem dX5_find_28 : decode cX5_find 28 = .ok (.invokevirtual 187, 3) := by decide +kernel
theorem dX5_find_31 : decode cX5_find 31 = .ok (.ireturn, 1) := by decide +kernel
set_option maxRecDepth 20000 in
theorem ggX5_wouldMake_X2_viewOf : GoodIn wsX5_wouldMake wsX2_viewOf := goodIn_r _ [12, 13, 84, 85, 86, 87, 88] (by decide +kernel) (by decide +kernel)
set_option maxRecDepth 20000 in
theorem gX5_wouldMake_X2_viewOf : GoodIn wsX5_wouldMake (wsV RX5 55 RX2 yX2_viewOf wsX2_viewOf) := goodIn_app (goodIn_of _ (by decide +kernel)) ggX5_wouldMake_X2_viewOf
set_option maxRecDepth 20000 in
theorem ggX5_wouldMake_X1_copyFrom : GoodIn wsX5_wouldMake wsX1_copyFrom := goodIn_r _ [18, 19, 20, 21, 22, 23, 24, 25, 81, 82, 83] (by decide +kernel) (by decide +kernel)
set_option maxRecDepth 20000 in
theorem gX5_wouldMake_X1_copyFrom : GoodIn wsX5_wouldMake (wsV RX5 190 RX1 yX1_copyFrom wsX1_copyFrom) := goodIn_app (goodIn_of _ (by decide +kernel)) ggX5_wouldMake_X1_copyFrom
set_option maxRecDepth 20000 in
theorem ggX5_wouldMake_X1_write : GoodIn wsX5_wouldMake wsX1_write := goodIn_r _ [29, 19, 20, 30, 31, 32, 17, 33, 34, 35, 36, 37, 38, 39, 40, 41, 42, 43, 44, 45, 46, 47, 48, 49, 50, 51, 52, 53, 54, 55, 25, 81, 82, 83] (by decide +kernel) (by decide +kernel)
set_option maxRecDepth 20000 in
theorem gX5_wouldMake_X1_write : GoodIn wsX5_wouldMake (wsV RX5 193 RX1 yX1_write wsX1_write) := goodIn_app (goodIn_of _ (by decide +kernel)) ggX5_wouldMake_X1_write
set_option maxRecDepth 20000 in
theorem ggX5_wouldMake_X1_removeLast : GoodIn wsX5_wouldMake wsX1_removeLast := goodIn_r _ [59, 19, 30, 31, 32, 17, 33, 34, 35, 36, 37, 60, 61, 62, 63, 42, 43, 44, 49, 50, 51, 64, 65, 66, 67, 68, 69, 70, 25, 52, 53, 54, 55, 81, 82, 83] (by decide +kernel) (by decide +kernel)
set_option maxRecDepth 20000 in
theorem gX5_wouldMake_X1_removeLast : GoodIn wsX5_wouldMake (wsV RX5 197 RX1 yX1_removeLast wsX1_removeLast) := goodIn_app (goodIn_of _ (by decide +kernel)) ggX5_wouldMake_X1_removeLast
theorem dX5_wouldMake_0 : decode cX5_wouldMake 0 = .ok (.aload_n 0, 1) := by decide +kernel
theorem dX5_wouldMake_1 : decode cX5_wouldMake 1 = .ok (.getfield 10, 3) := by decide +kernel
theorem dX5_wouldMake_4 : decode cX5_wouldMake 4 = .ok (.iload_n 1, 1) := by decide +kernel
theorem dX5_wouldMake_5 : decode cX5_wouldMake 5 = .ok (.invokevirtual 55, 3) := by decide +kernel
theorem dX5_wouldMake_8 : decode cX5_wouldMake 8 = .ok (.astore_n 3, 1) := by decide +kernel
theorem dX5_wouldMake_9 : decode cX5_wouldMake 9 = .ok (.aload_n 3, 1) := by decide +kernel
theorem dX5_wouldMake_10 : decode cX5_wouldMake 10 = .ok (.ifnonnull 5, 3) := by decide +kernel
theorem dX5_wouldMake_13 : decode cX5_wouldMake 13 = .ok (.iconst (-1), 1) := by decide +kernel
theorem dX5_wouldMake_14 : decode cX5_wouldMake 14 = .ok (.ireturn, 1) := by decide +kernel
theorem dX5_wouldMake_15 : decode cX5_wouldMake 15 = .ok (.iload_n 2, 1) := by decide +kernel
theorem dX5_wouldMake_16 : decode cX5_wouldMake 16 = .ok (.ifCond .lt 8, 3) := by decide +kernel
theorem dX5_wouldMake_19 : decode cX5_wouldMake 19 = .ok (.iload_n 2, 1) := by decide +kernel
theorem dX5_wouldMake_20 : decode cX5_wouldMake 20 = .ok (.iconst 2, 1) := by decide +kernel
theorem dX5_wouldMake_21 : decode cX5_wouldMake 21 = .ok (.if_icmp .le 6, 3) := by decide +kernel
theorem dX5_wouldMake_24 : decode cX5_wouldMake 24 = .ok (.bipush (-2), 2) := by decide +kernel
theorem dX5_wouldMake_26 : decode cX5_wouldMake 26 = .ok (.ireturn, 1) := by decide +kernel
theorem dX5_wouldMake_27 : decode cX5_wouldMake 27 = .ok (.aload_n 3, 1) := by decide +kernel
theorem dX5_wouldMake_28 : decode cX5_wouldMake 28 = .ok (.getfield 75, 3) := by decide +kernel
theorem dX5_wouldMake_31 : decode cX5_wouldMake 31 = .ok (.getfield 112, 3) := by decide +kernel
theorem dX5_wouldMake_34 : decode cX5_wouldMake 34 = .ok (.istore 4, 2) := by decide +kernel
theorem dX5_wouldMake_36 : decode cX5_wouldMake 36 = .ok (.aload_n 3, 1) := by decide +kernel
theorem dX5_wouldMake_37 : decode cX5_wouldMake 37 = .ok (.getfield 82, 3) := by decide +kernel
theorem dX5_wouldMake_40 : decode cX5_wouldMake 40 = .ok (.ifCond .ne 23, 3) := by decide +kernel
theorem dX5_wouldMake_43 : decode cX5_wouldMake 43 = .ok (.iload_n 2, 1) := by decide +kernel
theorem dX5_wouldMake_44 : decode cX5_wouldMake 44 = .ok (.ifCond .ne 14, 3) := by decide +kernel
theorem dX5_wouldMake_47 : decode cX5_wouldMake 47 = .ok (.iload 4, 2) := by decide +kernel
theorem dX5_wouldMake_49 : decode cX5_wouldMake 49 = .ok (.sipush 300, 3) := by decide +kernel
theorem dX5_wouldMake_52 : decode cX5_wouldMake 52 = .ok (.if_icmp .lt 14, 3) := by decide +kernel
theorem dX5_wouldMake_55 : decode cX5_wouldMake 55 = .ok (.goto 8, 3) := by decide +kernel
theorem dX5_wouldMake_58 : decode cX5_wouldMake 58 = .ok (.iload 4, 2) := by decide +kernel
theorem dX5_wouldMake_60 : decode cX5_wouldMake 60 = .ok (.ifCond .ne 6, 3) := by decide +kernel
theorem dX5_wouldMake_63 : decode cX5_wouldMake 63 = .ok (.bipush (-4), 2) := by decide +kernel
theorem dX5_wouldMake_65 : decode cX5_wouldMake 65 = .ok (.ireturn, 1) := by decide +kernel
theorem dX5_wouldMake_66 : decode cX5_wouldMake 66 = .ok (.aload_n 0, 1) := by decide +kernel
theorem dX5_wouldMake_67 : decode cX5_wouldMake 67 = .ok (.getfield 42, 3) := by decide +kernel
theorem dX5_wouldMake_70 : decode cX5_wouldMake 70 = .ok (.aload_n 3, 1) := by decide +kernel
theorem dX5_wouldMake_71 : decode cX5_wouldMake 71 = .ok (.getfield 75, 3) := by decide +kernel
theorem dX5_wouldMake_74 : decode cX5_wouldMake 74 = .ok (.invokevirtual 190, 3) := by decide +kernel
theorem dX5_wouldMake_77 : decode cX5_wouldMake 77 = .ok (.iload_n 2, 1) := by decide +kernel
theorem dX5_wouldMake_78 : decode cX5_wouldMake 78 = .ok (.lookupswitch 63 #[(0, 26), (1, 46)], 26) := by decide +kernel
theorem dX5_wouldMake_104 : decode cX5_wouldMake 104 = .ok (.aload_n 0, 1) := by decide +kernel
theorem dX5_wouldMake_105 : decode cX5_wouldMake 105 = .ok (.getfield 42, 3) := by decide +kernel
theorem dX5_wouldMake_108 : decode cX5_wouldMake 108 = .ok (.iload 4, 2) := by decide +kernel
theorem dX5_wouldMake_110 : decode cX5_wouldMake 110 = .ok (.iconst 0, 1) := by decide +kernel
theorem dX5_wouldMake_111 : decode cX5_wouldMake 111 = .ok (.aload_n 0, 1) := by decide +kernel
theorem dX5_wouldMake_112 : decode cX5_wouldMake 112 = .ok (.getfield 10, 3) := by decide +kernel
theorem dX5_wouldMake_115 : decode cX5_wouldMake 115 = .ok (.getfield 152, 3) := by decide +kernel
theorem dX5_wouldMake_118 : decode cX5_wouldMake 118 = .ok (.ldc 192, 2) := by decide +kernel
theorem dX5_wouldMake_120 : decode cX5_wouldMake 120 = .ok (.invokevirtual 193, 3) := by decide +kernel
theorem dX5_wouldMake_123 : decode cX5_wouldMake 123 = .ok (.ireturn, 1) := by decide +kernel
theorem dX5_wouldMake_124 : decode cX5_wouldMake 124 = .ok (.aload_n 0, 1) := by decide +kernel
theorem dX5_wouldMake_125 : decode cX5_wouldMake 125 = .ok (.getfield 42, 3) := by decide +kernel
theorem dX5_wouldMake_128 : decode cX5_wouldMake 128 = .ok (.aload_n 0, 1) := by decide +kernel
theorem dX5_wouldMake_129 : decode cX5_wouldMake 129 = .ok (.getfield 10, 3) := by decide +kernel
theorem dX5_wouldMake_132 : decode cX5_wouldMake 132 = .ok (.getfield 152, 3) := by decide +kernel
theorem dX5_wouldMake_135 : decode cX5_wouldMake 135 = .ok (.ldc 192, 2) := by decide +kernel
theorem dX5_wouldMake_137 : decode cX5_wouldMake 137 = .ok (.invokevirtual 197, 3) := by decide +kernel
theorem dX5_wouldMake_140 : decode cX5_wouldMake 140 = .ok (.ireturn, 1) := by decide +kernel
theorem dX5_wouldMake_141 : decode cX5_wouldMake 141 = .ok (.aload_n 0, 1) := by decide +kernel
theorem dX5_wouldMake_142 : decode cX5_wouldMake 142 = .ok (.getfield 42, 3) := by decide +kernel
theorem dX5_wouldMake_145 : decode cX5_wouldMake 145 = .ok (.iconst 0, 1) := by decide +kernel
theorem dX5_wouldMake_146 : decode cX5_wouldMake 146 = .ok (.iconst 0, 1) := by decide +kernel
theorem dX5_wouldMake_147 : decode cX5_wouldMake 147 = .ok (.aload_n 0, 1) := by decide +kernel
theorem dX5_wouldMake_148 : decode cX5_wouldMake 148 = .ok (.getfield 10, 3) := by decide +kernel
theorem dX5_wouldMake_151 : decode cX5_wouldMake 151 = .ok (.getfield 152, 3) := by decide +kernel
theorem dX5_wouldMake_154 : decode cX5_wouldMake 154 = .ok (.ldc 192, 2) := by decide +kernel
theorem dX5_wouldMake_156 : decode cX5_wouldMake 156 = .ok (.invokevirtual 193, 3) := by decide +kernel
theorem dX5_wouldMake_159 : decode cX5_wouldMake 159 = .ok (.ireturn, 1) := by decide +kernel
set_option maxRecDepth 20000 in
theorem ggX5_edit_X1_blocksFrom : GoodIn wsX5_edit wsX1_blocksFrom := goodIn_r _ [9, 10, 68, 69, 70] (by decide +kernel) (by decide +kernel)
set_option maxRecDepth 20000 in
theorem gX5_edit_X1_blocksFrom : GoodIn wsX5_edit (wsV RX5 203 RX1 yX1_blocksFrom wsX1_blocksFrom) := goodIn_app (goodIn_of _ (by decide +kernel)) ggX5_edit_X1_blocksFrom
set_option maxRecDepth 20000 in
theorem ggX5_edit_X1_blocks : GoodIn wsX5_edit wsX1_blocks := goodIn_r _ [14, 15, 6, 7, 8, 9, 10, 68, 69, 70] (by decide +kernel) (by decide +kernel)
set_option maxRecDepth 20000 in
theorem gX5_edit_X1_blocks : GoodIn wsX5_edit (wsV RX5 162 RX1 yX1_blocks wsX1_blocks) := goodIn_app (goodIn_of _ (by decide +kernel)) ggX5_edit_X1_blocks
set_option maxRecDepth 20000 in
theorem ggX5_edit_X2_blocksNotIn : GoodIn wsX5_edit wsX2_blocksNotIn := goodIn_r _ [20, 21, 22, 23, 24, 19, 25, 26, 27, 28, 29, 30, 31, 32, 33, 34, 35, 36, 37, 38, 39, 8, 40, 10, 68, 69, 70, 71, 72, 73, 74, 63, 64, 65, 66, 67] (by decide +kernel) (by decide +kernel)
set_option maxRecDepth 20000 in
theorem gX5_edit_X2_blocksNotIn : GoodIn wsX5_edit (wsV RX5 206 RX2 yX2_blocksNotIn wsX2_blocksNotIn) := goodIn_app (goodIn_of _ (by decide +kernel)) ggX5_edit_X2_blocksNotIn
set_option maxRecDepth 20000 in
theorem ggX5_edit_X1_leaves : GoodIn wsX5_edit wsX1_leaves := goodIn_r _ [44, 45, 68, 69, 70] (by decide +kernel) (by decide +kernel)
set_option maxRecDepth 20000 in
theorem gX5_edit_X1_leaves : GoodIn wsX5_edit (wsV RX5 159 RX1 yX1_leaves wsX1_leaves) := goodIn_app (goodIn_of _ (by decide +kernel)) ggX5_edit_X1_leaves
set_option maxRecDepth 20000 in
theorem ggX5_edit_X5_rootLevel : GoodIn wsX5_edit wsX5_rootLevel := goodIn_r _ [49] (by decide +kernel) (by decide +kernel)
set_option maxRecDepth 20000 in
theorem gX5_edit_X5_rootLevel : GoodIn wsX5_edit (va_wsS RX5 165 yX5_rootLevel wsX5_rootLevel) := goodIn_app (goodIn_of _ (by decide +kernel)) ggX5_edit_X5_rootLevel
set_option maxRecDepth 20000 in
theorem ggX5_edit_X1_numberAt : GoodIn wsX5_edit wsX1_numberAt := goodIn_r _ [53, 10, 54, 55, 8, 56, 68, 69, 70] (by decide +kernel) (by decide +kernel)
set_option maxRecDepth 20000 in
theorem gX5_edit_X1_numberAt : GoodIn wsX5_edit (wsV RX5 177 RX1 yX1_numberAt wsX1_numberAt) := goodIn_app (goodIn_of _ (by decide +kernel)) ggX5_edit_X1_numberAt
theorem dX5_edit_0 : decode cX5_edit 0 = .ok (.iload_n 1, 1) := by decide +kernel
theorem dX5_edit_1 : decode cX5_edit 1 = .ok (.ifCond .lt 8, 3) := by decide +kernel
theorem dX5_edit_4 : decode cX5_edit 4 = .ok (.iload_n 1, 1) := by decide +kernel
theorem dX5_edit_5 : decode cX5_edit 5 = .ok (.iconst 4, 1) := by decide +kernel
theorem dX5_edit_6 : decode cX5_edit 6 = .ok (.if_icmp .le 6, 3) := by decide +kernel
theorem dX5_edit_9 : decode cX5_edit 9 = .ok (.bipush (-2), 2) := by decide +kernel
theorem dX5_edit_11 : decode cX5_edit 11 = .ok (.ireturn, 1) := by decide +kernel
theorem dX5_edit_12 : decode cX5_edit 12 = .ok (.aload_n 0, 1) := by decide +kernel
theorem dX5_edit_13 : decode cX5_edit 13 = .ok (.getfield 10, 3) := by decide +kernel
theorem dX5_edit_16 : decode cX5_edit 16 = .ok (.getfield 105, 3) := by decide +kernel
theorem dX5_edit_19 : decode cX5_edit 19 = .ok (.astore_n 2, 1) := by decide +kernel
theorem dX5_edit_20 : decode cX5_edit 20 = .ok (.aload_n 2, 1) := by decide +kernel
theorem dX5_edit_21 : decode cX5_edit 21 = .ok (.ifnonnull 6, 3) := by decide +kernel
theorem dX5_edit_24 : decode cX5_edit 24 = .ok (.bipush (-4), 2) := by decide +kernel
theorem dX5_edit_26 : decode cX5_edit 26 = .ok (.ireturn, 1) := by decide +kernel
theorem dX5_edit_27 : decode cX5_edit 27 = .ok (.iload_n 1, 1) := by decide +kernel
theorem dX5_edit_28 : decode cX5_edit 28 = .ok (.tableswitch 70 0 3 #[32, 37, 49, 54], 32) := by decide +kernel
theorem dX5_edit_60 : decode cX5_edit 60 = .ok (.aload_n 2, 1) := by decide +kernel
theorem dX5_edit_61 : decode cX5_edit 61 = .ok (.getfield 112, 3) := by decide +kernel
theorem dX5_edit_64 : decode cX5_edit 64 = .ok (.ireturn, 1) := by decide +kernel
theorem dX5_edit_65 : decode cX5_edit 65 = .ok (.aload_n 2, 1) := by decide +kernel
theorem dX5_edit_66 : decode cX5_edit 66 = .ok (.aload_n 0, 1) := by decide +kernel
theorem dX5_edit_67 : decode cX5_edit 67 = .ok (.getfield 10, 3) := by decide +kernel
theorem dX5_edit_70 : decode cX5_edit 70 = .ok (.getfield 200, 3) := by decide +kernel
theorem dX5_edit_73 : decode cX5_edit 73 = .ok (.invokevirtual 203, 3) := by decide +kernel
theorem dX5_edit_76 : decode cX5_edit 76 = .ok (.ireturn, 1) := by decide +kernel
theorem dX5_edit_77 : decode cX5_edit 77 = .ok (.aload_n 2, 1) := by decide +kernel
theorem dX5_edit_78 : decode cX5_edit 78 = .ok (.invokevirtual 162, 3) := by decide +kernel
theorem dX5_edit_81 : decode cX5_edit 81 = .ok (.ireturn, 1) := by decide +kernel
theorem dX5_edit_82 : decode cX5_edit 82 = .ok (.aload_n 2, 1) := by decide +kernel
theorem dX5_edit_83 : decode cX5_edit 83 = .ok (.invokevirtual 162, 3) := by decide +kernel
theorem dX5_edit_86 : decode cX5_edit 86 = .ok (.aload_n 0, 1) := by decide +kernel
theorem dX5_edit_87 : decode cX5_edit 87 = .ok (.getfield 10, 3) := by decide +kernel
theorem dX5_edit_90 : decode cX5_edit 90 = .ok (.bipush 24, 2) := by decide +kernel
theorem dX5_edit_92 : decode cX5_edit 92 = .ok (.aload_n 2, 1) := by decide +kernel
theorem dX5_edit_93 : decode cX5_edit 93 = .ok (.invokevirtual 206, 3) := by decide +kernel
theorem dX5_edit_96 : decode cX5_edit 96 = .ok (.isub, 1) := by decide +kernel
theorem dX5_edit_97 : decode cX5_edit 97 = .ok (.ireturn, 1) := by decide +kernel
theorem dX5_edit_98 : decode cX5_edit 98 = .ok (.aload_n 2, 1) := by decide +kernel
theorem dX5_edit_99 : decode cX5_edit 99 = .ok (.aload_n 2, 1) := by decide +kernel
theorem dX5_edit_100 : decode cX5_edit 100 = .ok (.invokevirtual 159, 3) := by decide +kernel
theorem dX5_edit_103 : decode cX5_edit 103 = .ok (.invokestatic 165, 3) := by decide +kernel
theorem dX5_edit_106 : decode cX5_edit 106 = .ok (.iconst 0, 1) := by decide +kernel
theorem dX5_edit_107 : decode cX5_edit 107 = .ok (.invokevirtual 177, 3) := by decide +kernel
theorem dX5_edit_110 : decode cX5_edit 110 = .ok (.ireturn, 1) := by decide +kernel
set_option maxRecDepth 20000 in
theorem ggX5_count_X2_viewsLeft : GoodIn wsX5_count wsX2_viewsLeft := goodIn_r _ [13, 14, 55, 56, 57, 58, 59] (by decide +kernel) (by decide +kernel)
set_option maxRecDepth 20000 in
theorem gX5_count_X2_viewsLeft : GoodIn wsX5_count (wsV RX5 102 RX2 yX2_viewsLeft wsX2_viewsLeft) := goodIn_app (goodIn_of _ (by decide +kernel)) ggX5_count_X2_viewsLeft
set_option maxRecDepth 20000 in
theorem ggX5_count_X2_blocksInUse : GoodIn wsX5_count wsX2_blocksInUse := goodIn_r _ [18, 19, 20, 21, 12, 22, 23, 24, 25, 26, 27, 28, 14, 29, 30, 31, 32, 33, 34, 35, 36, 37, 38, 39, 40, 41, 42, 43, 64, 65, 66, 67, 55, 56, 57, 58, 59, 68, 69, 70] (by decide +kernel) (by decide +kernel)
set_option maxRecDepth 20000 in
theorem gX5_count_X2_blocksInUse : GoodIn wsX5_count (wsV RX5 213 RX2 yX2_blocksInUse wsX2_blocksInUse) := goodIn_app (goodIn_of _ (by decide +kernel)) ggX5_count_X2_blocksInUse
set_option maxRecDepth 20000 in
theorem ggX5_count_X2_valuesShown : GoodIn wsX5_count wsX2_valuesShown := goodIn_r _ [47, 14, 48, 55, 56, 57, 58, 59, 64, 65, 66, 67] (by decide +kernel) (by decide +kernel)
set_option maxRecDepth 20000 in
theorem gX5_count_X2_valuesShown : GoodIn wsX5_count (wsV RX5 216 RX2 yX2_valuesShown wsX2_valuesShown) := goodIn_app (goodIn_of _ (by decide +kernel)) ggX5_count_X2_valuesShown
theorem dX5_count_0 : decode cX5_count 0 = .ok (.iload_n 1, 1) := by decide +kernel
theorem dX5_count_1 : decode cX5_count 1 = .ok (.tableswitch 139 0 8 #[51, 59, 67, 75, 83, 99, 115, 123, 131], 51) := by decide +kernel
theorem dX5_count_52 : decode cX5_count 52 = .ok (.aload_n 0, 1) := by decide +kernel
theorem dX5_count_53 : decode cX5_count 53 = .ok (.getfield 10, 3) := by decide +kernel
theorem dX5_count_56 : decode cX5_count 56 = .ok (.getfield 210, 3) := by decide +kernel
theorem dX5_count_59 : decode cX5_count 59 = .ok (.ireturn, 1) := by decide +kernel
theorem dX5_count_60 : decode cX5_count 60 = .ok (.aload_n 0, 1) := by decide +kernel
theorem dX5_count_61 : decode cX5_count 61 = .ok (.getfield 10, 3) := by decide +kernel
theorem dX5_count_64 : decode cX5_count 64 = .ok (.invokevirtual 102, 3) := by decide +kernel
theorem dX5_count_67 : decode cX5_count 67 = .ok (.ireturn, 1) := by decide +kernel
theorem dX5_count_68 : decode cX5_count 68 = .ok (.aload_n 0, 1) := by decide +kernel
theorem dX5_count_69 : decode cX5_count 69 = .ok (.getfield 10, 3) := by decide +kernel
theorem dX5_count_72 : decode cX5_count 72 = .ok (.getfield 152, 3) := by decide +kernel
theorem dX5_count_75 : decode cX5_count 75 = .ok (.ireturn, 1) := by decide +kernel
theorem dX5_count_76 : decode cX5_count 76 = .ok (.aload_n 0, 1) := by decide +kernel
theorem dX5_count_77 : decode cX5_count 77 = .ok (.getfield 10, 3) := by decide +kernel
theorem dX5_count_80 : decode cX5_count 80 = .ok (.invokevirtual 213, 3) := by decide +kernel
theorem dX5_count_83 : decode cX5_count 83 = .ok (.ireturn, 1) := by decide +kernel
theorem dX5_count_84 : decode cX5_count 84 = .ok (.aload_n 0, 1) := by decide +kernel
theorem dX5_count_85 : decode cX5_count 85 = .ok (.getfield 10, 3) := by decide +kernel
theorem dX5_count_88 : decode cX5_count 88 = .ok (.getfield 152, 3) := by decide +kernel
theorem dX5_count_91 : decode cX5_count 91 = .ok (.aload_n 0, 1) := by decide +kernel
theorem dX5_count_92 : decode cX5_count 92 = .ok (.getfield 10, 3) := by decide +kernel
theorem dX5_count_95 : decode cX5_count 95 = .ok (.invokevirtual 213, 3) := by decide +kernel
theorem dX5_count_98 : decode cX5_count 98 = .ok (.isub, 1) := by decide +kernel
theorem dX5_count_99 : decode cX5_count 99 = .ok (.ireturn, 1) := by decide +kernel
theorem dX5_count_100 : decode cX5_count 100 = .ok (.aload_n 0, 1) := by decide +kernel
theorem dX5_count_101 : decode cX5_count 101 = .ok (.getfield 10, 3) := by decide +kernel
theorem dX5_count_104 : decode cX5_count 104 = .ok (.getfield 105, 3) := by decide +kernel
theorem dX5_count_107 : decode cX5_count 107 = .ok (.ifnull 7, 3) := by decide +kernel
theorem dX5_count_110 : decode cX5_count 110 = .ok (.iconst 1, 1) := by decide +kernel
theorem dX5_count_111 : decode cX5_count 111 = .ok (.goto 4, 3) := by decide +kernel
theorem dX5_count_114 : decode cX5_count 114 = .ok (.iconst 0, 1) := by decide +kernel
theorem dX5_count_115 : decode cX5_count 115 = .ok (.ireturn, 1) := by decide +kernel
theorem dX5_count_116 : decode cX5_count 116 = .ok (.aload_n 0, 1) := by decide +kernel
theorem dX5_count_117 : decode cX5_count 117 = .ok (.getfield 10, 3) := by decide +kernel
theorem dX5_count_120 : decode cX5_count 120 = .ok (.invokevirtual 216, 3) := by decide +kernel
theorem dX5_count_123 : decode cX5_count 123 = .ok (.ireturn, 1) := by decide +kernel
theorem dX5_count_124 : decode cX5_count 124 = .ok (.aload_n 0, 1) := by decide +kernel
theorem dX5_count_125 : decode cX5_count 125 = .ok (.getfield 26, 3) := by decide +kernel
theorem dX5_count_128 : decode cX5_count 128 = .ok (.getfield 145, 3) := by decide +kernel
theorem dX5_count_131 : decode cX5_count 131 = .ok (.ireturn, 1) := by decide +kernel
theorem dX5_count_132 : decode cX5_count 132 = .ok (.aload_n 0, 1) := by decide +kernel
theorem dX5_count_133 : decode cX5_count 133 = .ok (.getfield 33, 3) := by decide +kernel
theorem dX5_count_136 : decode cX5_count 136 = .ok (.getfield 141, 3) := by decide +kernel
theorem dX5_count_139 : decode cX5_count 139 = .ok (.ireturn, 1) := by decide +kernel
theorem dX5_count_140 : decode cX5_count 140 = .ok (.bipush (-2), 2) := by decide +kernel
theorem dX5_count_142 : decode cX5_count 142 = .ok (.ireturn, 1) := by decide +kernel
theorem dX5_isValue_0 : decode cX5_isValue 0 = .ok (.iload_n 0, 1) := by decide +kernel
theorem dX5_isValue_1 : decode cX5_isValue 1 = .ok (.ifCond .lt 14, 3) := by decide +kernel
theorem dX5_isValue_4 : decode cX5_isValue 4 = .ok (.iload_n 0, 1) := by decide +kernel
theorem dX5_isValue_5 : decode cX5_isValue 5 = .ok (.sipush 999, 3) := by decide +kernel
theorem dX5_isValue_8 : decode cX5_isValue 8 = .ok (.if_icmp .gt 7, 3) := by decide +kernel
theorem dX5_isValue_11 : decode cX5_isValue 11 = .ok (.iconst 1, 1) := by decide +kernel
theorem dX5_isValue_12 : decode cX5_isValue 12 = .ok (.goto 4, 3) := by decide +kernel
theorem dX5_isValue_15 : decode cX5_isValue 15 = .ok (.iconst 0, 1) := by decide +kernel
theorem dX5_isValue_16 : decode cX5_isValue 16 = .ok (.ireturn, 1) := by decide +kernel
theorem dX5_rootLevel_0 : decode cX5_rootLevel 0 = .ok (.iload_n 0, 1) := by decide +kernel
theorem dX5_rootLevel_1 : decode cX5_rootLevel 1 = .ok (.ifCond .gt 6, 3) := by decide +kernel
theorem dX5_rootLevel_4 : decode cX5_rootLevel 4 = .ok (.bipush (-5), 2) := by decide +kernel
theorem dX5_rootLevel_6 : decode cX5_rootLevel 6 = .ok (.ireturn, 1) := by decide +kernel
theorem dX5_rootLevel_7 : decode cX5_rootLevel 7 = .ok (.iconst 1, 1) := by decide +kernel
theorem dX5_rootLevel_8 : decode cX5_rootLevel 8 = .ok (.istore_n 1, 1) := by decide +kernel
theorem dX5_rootLevel_9 : decode cX5_rootLevel 9 = .ok (.iload_n 1, 1) := by decide +kernel
theorem dX5_rootLevel_10 : decode cX5_rootLevel 10 = .ok (.iconst 4, 1) := by decide +kernel
theorem dX5_rootLevel_11 : decode cX5_rootLevel 11 = .ok (.if_icmp .ge 18, 3) := by decide +kernel
theorem dX5_rootLevel_14 : decode cX5_rootLevel 14 = .ok (.iconst 1, 1) := by decide +kernel
theorem dX5_rootLevel_15 : decode cX5_rootLevel 15 = .ok (.iconst 2, 1) := by decide +kernel
theorem dX5_rootLevel_16 : decode cX5_rootLevel 16 = .ok (.iload_n 1, 1) := by decide +kernel
theorem dX5_rootLevel_17 : decode cX5_rootLevel 17 = .ok (.imul, 1) := by decide +kernel
theorem dX5_rootLevel_18 : decode cX5_rootLevel 18 = .ok (.ishl, 1) := by decide +kernel
theorem dX5_rootLevel_19 : decode cX5_rootLevel 19 = .ok (.iload_n 0, 1) := by decide +kernel
theorem dX5_rootLevel_20 : decode cX5_rootLevel 20 = .ok (.if_icmp .ge 9, 3) := by decide +kernel
theorem dX5_rootLevel_23 : decode cX5_rootLevel 23 = .ok (.iinc 1 1, 3) := by decide +kernel
theorem dX5_rootLevel_26 : decode cX5_rootLevel 26 = .ok (.goto (-17), 3) := by decide +kernel
theorem dX5_rootLevel_29 : decode cX5_rootLevel 29 = .ok (.iload_n 1, 1) := by decide +kernel
theorem dX5_rootLevel_30 : decode cX5_rootLevel 30 = .ok (.ireturn, 1) := by decide +kernel
