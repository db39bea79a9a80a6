theorem dX0_init_0 : decode cX0_init 0 = .ok (.aload_n 0, 1) := by decide +kernel
theorem dX0_init_1 : decode cX0_init 1 = .ok (.invokespecial 1, 3) := by decide +kernel
theorem dX0_init_4 : decode cX0_init 4 = .ok (.aload_n 0, 1) := by decide +kernel
theorem dX0_init_5 : decode cX0_init 5 = .ok (.iconst 2, 1) := by decide +kernel
theorem dX0_init_6 : decode cX0_init 6 = .ok (.newarray .int, 2) := by decide +kernel
theorem dX0_init_8 : decode cX0_init 8 = .ok (.putfield 7, 3) := by decide +kernel
theorem dX0_init_11 : decode cX0_init 11 = .ok (.aload_n 0, 1) := by decide +kernel
theorem dX0_init_12 : decode cX0_init 12 = .ok (.iconst 2, 1) := by decide +kernel
theorem dX0_init_13 : decode cX0_init 13 = .ok (.newarray .int, 2) := by decide +kernel
theorem dX0_init_15 : decode cX0_init 15 = .ok (.putfield 13, 3) := by decide +kernel
theorem dX0_init_18 : decode cX0_init 18 = .ok (.aload_n 0, 1) := by decide +kernel
theorem dX0_init_19 : decode cX0_init 19 = .ok (.iconst 2, 1) := by decide +kernel
theorem dX0_init_20 : decode cX0_init 20 = .ok (.newarray .int, 2) := by decide +kernel
theorem dX0_init_22 : decode cX0_init 22 = .ok (.putfield 16, 3) := by decide +kernel
theorem dX0_init_25 : decode cX0_init 25 = .ok (.return_, 1) := by decide +kernel
set_option maxRecDepth 20000 in
theorem ggX0_add_X0_addOf : GoodIn wsX0_add wsX0_addOf := goodIn_r _ [6, 7, 8, 9, 10, 11, 12, 13] (by decide +kernel) (by decide +kernel)
set_option maxRecDepth 20000 in
theorem gX0_add_X0_addOf : GoodIn wsX0_add (wsV RX0 23 RX0 yX0_addOf wsX0_addOf) := goodIn_app (goodIn_of _ (by decide +kernel)) ggX0_add_X0_addOf
theorem dX0_add_0 : decode cX0_add 0 = .ok (.aload_n 0, 1) := by decide +kernel
theorem dX0_add_1 : decode cX0_add 1 = .ok (.dup, 1) := by decide +kernel
theorem dX0_add_2 : decode cX0_add 2 = .ok (.getfield 19, 3) := by decide +kernel
theorem dX0_add_5 : decode cX0_add 5 = .ok (.iconst 1, 1) := by decide +kernel
theorem dX0_add_6 : decode cX0_add 6 = .ok (.iadd, 1) := by decide +kernel
theorem dX0_add_7 : decode cX0_add 7 = .ok (.putfield 19, 3) := by decide +kernel
theorem dX0_add_10 : decode cX0_add 10 = .ok (.aload_n 0, 1) := by decide +kernel
theorem dX0_add_11 : decode cX0_add 11 = .ok (.iconst 0, 1) := by decide +kernel
theorem dX0_add_12 : decode cX0_add 12 = .ok (.iload_n 1, 1) := by decide +kernel
theorem dX0_add_13 : decode cX0_add 13 = .ok (.iload_n 3, 1) := by decide +kernel
theorem dX0_add_14 : decode cX0_add 14 = .ok (.invokevirtual 23, 3) := by decide +kernel
theorem dX0_add_17 : decode cX0_add 17 = .ok (.aload_n 0, 1) := by decide +kernel
theorem dX0_add_18 : decode cX0_add 18 = .ok (.iconst 1, 1) := by decide +kernel
theorem dX0_add_19 : decode cX0_add 19 = .ok (.iload_n 2, 1) := by decide +kernel
theorem dX0_add_20 : decode cX0_add 20 = .ok (.iload_n 3, 1) := by decide +kernel
theorem dX0_add_21 : decode cX0_add 21 = .ok (.invokevirtual 23, 3) := by decide +kernel
theorem dX0_add_24 : decode cX0_add 24 = .ok (.return_, 1) := by decide +kernel
theorem dX0_addOf_0 : decode cX0_addOf 0 = .ok (.aload_n 0, 1) := by decide +kernel
theorem dX0_addOf_1 : decode cX0_addOf 1 = .ok (.getfield 7, 3) := by decide +kernel
theorem dX0_addOf_4 : decode cX0_addOf 4 = .ok (.iload_n 1, 1) := by decide +kernel
theorem dX0_addOf_5 : decode cX0_addOf 5 = .ok (.dup2, 1) := by decide +kernel
theorem dX0_addOf_6 : decode cX0_addOf 6 = .ok (.iaload, 1) := by decide +kernel
theorem dX0_addOf_7 : decode cX0_addOf 7 = .ok (.iload_n 2, 1) := by decide +kernel
theorem dX0_addOf_8 : decode cX0_addOf 8 = .ok (.iload_n 3, 1) := by decide +kernel
theorem dX0_addOf_9 : decode cX0_addOf 9 = .ok (.if_icmp .ne 7, 3) := by decide +kernel
theorem dX0_addOf_12 : decode cX0_addOf 12 = .ok (.iconst 1, 1) := by decide +kernel
theorem dX0_addOf_13 : decode cX0_addOf 13 = .ok (.goto 4, 3) := by decide +kernel
theorem dX0_addOf_16 : decode cX0_addOf 16 = .ok (.iconst 0, 1) := by decide +kernel
theorem dX0_addOf_17 : decode cX0_addOf 17 = .ok (.iadd, 1) := by decide +kernel
theorem dX0_addOf_18 : decode cX0_addOf 18 = .ok (.iastore, 1) := by decide +kernel
theorem dX0_addOf_19 : decode cX0_addOf 19 = .ok (.aload_n 0, 1) := by decide +kernel
theorem dX0_addOf_20 : decode cX0_addOf 20 = .ok (.getfield 13, 3) := by decide +kernel
theorem dX0_addOf_23 : decode cX0_addOf 23 = .ok (.iload_n 1, 1) := by decide +kernel
theorem dX0_addOf_24 : decode cX0_addOf 24 = .ok (.dup2, 1) := by decide +kernel
theorem dX0_addOf_25 : decode cX0_addOf 25 = .ok (.iaload, 1) := by decide +kernel
theorem dX0_addOf_26 : decode cX0_addOf 26 = .ok (.iload_n 2, 1) := by decide +kernel
theorem dX0_addOf_27 : decode cX0_addOf 27 = .ok (.iadd, 1) := by decide +kernel
theorem dX0_addOf_28 : decode cX0_addOf 28 = .ok (.iastore, 1) := by decide +kernel
theorem dX0_addOf_29 : decode cX0_addOf 29 = .ok (.aload_n 0, 1) := by decide +kernel
theorem dX0_addOf_30 : decode cX0_addOf 30 = .ok (.getfield 16, 3) := by decide +kernel
theorem dX0_addOf_33 : decode cX0_addOf 33 = .ok (.iload_n 1, 1) := by decide +kernel
theorem dX0_addOf_34 : decode cX0_addOf 34 = .ok (.dup2, 1) := by decide +kernel
theorem dX0_addOf_35 : decode cX0_addOf 35 = .ok (.iaload, 1) := by decide +kernel
theorem dX0_addOf_36 : decode cX0_addOf 36 = .ok (.iload_n 2, 1) := by decide +kernel
theorem dX0_addOf_37 : decode cX0_addOf 37 = .ok (.iload_n 3, 1) := by decide +kernel
theorem dX0_addOf_38 : decode cX0_addOf 38 = .ok (.imul, 1) := by decide +kernel
theorem dX0_addOf_39 : decode cX0_addOf 39 = .ok (.iadd, 1) := by decide +kernel
theorem dX0_addOf_40 : decode cX0_addOf 40 = .ok (.iastore, 1) := by decide +kernel
theorem dX0_addOf_41 : decode cX0_addOf 41 = .ok (.return_, 1) := by decide +kernel
theorem dX1_init_0 : decode cX1_init 0 = .ok (.aload_n 0, 1) := by decide +kernel
theorem dX1_init_1 : decode cX1_init 1 = .ok (.invokespecial 3, 3) := by decide +kernel
theorem dX1_init_4 : decode cX1_init 4 = .ok (.aload_n 0, 1) := by decide +kernel
theorem dX1_init_5 : decode cX1_init 5 = .ok (.bipush 6, 2) := by decide +kernel
theorem dX1_init_7 : decode cX1_init 7 = .ok (.newarray .int, 2) := by decide +kernel
theorem dX1_init_9 : decode cX1_init 9 = .ok (.putfield 9, 3) := by decide +kernel
theorem dX1_init_12 : decode cX1_init 12 = .ok (.aload_n 0, 1) := by decide +kernel
theorem dX1_init_13 : decode cX1_init 13 = .ok (.iconst 5, 1) := by decide +kernel
theorem dX1_init_14 : decode cX1_init 14 = .ok (.newarray .boolean, 2) := by decide +kernel
theorem dX1_init_16 : decode cX1_init 16 = .ok (.putfield 15, 3) := by decide +kernel
theorem dX1_init_19 : decode cX1_init 19 = .ok (.aload_n 0, 1) := by decide +kernel
theorem dX1_init_20 : decode cX1_init 20 = .ok (.bipush 6, 2) := by decide +kernel
theorem dX1_init_22 : decode cX1_init 22 = .ok (.bipush 6, 2) := by decide +kernel
theorem dX1_init_24 : decode cX1_init 24 = .ok (.multianewarray 19 2, 4) := by decide +kernel
theorem dX1_init_28 : decode cX1_init 28 = .ok (.putfield 21, 3) := by decide +kernel
theorem dX1_init_31 : decode cX1_init 31 = .ok (.aload_n 0, 1) := by decide +kernel
theorem dX1_init_32 : decode cX1_init 32 = .ok (.bipush 7, 2) := by decide +kernel
theorem dX1_init_34 : decode cX1_init 34 = .ok (.newarray .int, 2) := by decide +kernel
theorem dX1_init_36 : decode cX1_init 36 = .ok (.putfield 24, 3) := by decide +kernel
theorem dX1_init_39 : decode cX1_init 39 = .ok (.aload_n 0, 1) := by decide +kernel
theorem dX1_init_40 : decode cX1_init 40 = .ok (.bipush 6, 2) := by decide +kernel
theorem dX1_init_42 : decode cX1_init 42 = .ok (.newarray .int, 2) := by decide +kernel
theorem dX1_init_44 : decode cX1_init 44 = .ok (.putfield 27, 3) := by decide +kernel
theorem dX1_init_47 : decode cX1_init 47 = .ok (.aload_n 0, 1) := by decide +kernel
theorem dX1_init_48 : decode cX1_init 48 = .ok (.aload_n 1, 1) := by decide +kernel
theorem dX1_init_49 : decode cX1_init 49 = .ok (.putfield 30, 3) := by decide +kernel
theorem dX1_init_52 : decode cX1_init 52 = .ok (.aload_n 0, 1) := by decide +kernel
theorem dX1_init_53 : decode cX1_init 53 = .ok (.aload_n 2, 1) := by decide +kernel
theorem dX1_init_54 : decode cX1_init 54 = .ok (.putfield 34, 3) := by decide +kernel
theorem dX1_init_57 : decode cX1_init 57 = .ok (.aload_n 0, 1) := by decide +kernel
theorem dX1_init_58 : decode cX1_init 58 = .ok (.aload_n 3, 1) := by decide +kernel
theorem dX1_init_59 : decode cX1_init 59 = .ok (.putfield 38, 3) := by decide +kernel
theorem dX1_init_62 : decode cX1_init 62 = .ok (.return_, 1) := by decide +kernel
set_option maxRecDepth 20000 in
theorem ggX1_search_X1_findLowest : GoodIn wsX1_search wsX1_findLowest := goodIn_r _ [9, 10, 11, 12, 13, 14, 15, 16, 17, 18, 19, 20, 21, 22, 23, 24, 25, 26, 27, 28, 29, 30, 8, 31, 32, 33, 1, 34, 35, 36, 37, 38, 39, 40, 41, 42, 43, 44, 45, 46, 47, 48, 49, 50, 51, 52, 53, 54, 55, 56, 57, 58, 59, 60, 61, 62, 63, 64, 65, 66, 67, 68, 69, 70, 71, 72, 73, 74, 75, 76, 77, 78, 79, 80, 81, 82, 83, 84, 102, 103, 104, 105, 106, 107, 108, 109, 110, 111, 112, 113, 114, 115, 116, 117, 118, 119, 120, 121, 122, 123, 124, 125, 126, 127] (by decide +kernel) (by decide +kernel)
set_option maxRecDepth 20000 in
theorem gX1_search_X1_findLowest : GoodIn wsX1_search (wsV RX1 49 RX1 yX1_findLowest wsX1_findLowest) := goodIn_app (goodIn_of _ (by decide +kernel)) ggX1_search_X1_findLowest
set_option maxRecDepth 20000 in
theorem ggX1_search_X1_tryFrom : GoodIn wsX1_search wsX1_tryFrom := goodIn_r _ [87, 11, 12, 15, 10, 3, 88, 16, 4, 89, 90, 91, 8, 92, 32, 13, 33, 1, 93, 94, 95, 96, 97, 35, 36, 37, 38, 39, 40, 41, 42, 43, 44, 45, 46, 47, 48, 49, 50, 51, 52, 53, 19, 54, 55, 56, 57, 24, 58, 59, 60, 61, 62, 63, 64, 65, 66, 67, 68, 69, 70, 71, 72, 73, 26, 74, 18, 20, 75, 76, 77, 78, 79, 80, 81, 82, 83, 84, 98, 99, 100, 101, 85, 86, 21, 22, 23, 25, 27, 102, 103, 104, 105, 106, 107, 108, 109, 110, 111, 112, 113, 114, 115, 116, 117, 118, 119, 120, 121, 122, 123, 124, 125, 126, 127] (by decide +kernel) (by decide +kernel)
set_option maxRecDepth 20000 in
theorem gX1_search_X1_tryFrom : GoodIn wsX1_search (va_wsS RX1 52 yX1_tryFrom wsX1_tryFrom) := goodIn_app (goodIn_of _ (by decide +kernel)) ggX1_search_X1_tryFrom
theorem dX1_search_0 : decode cX1_search 0 = .ok (.aload_n 0, 1) := by decide +kernel
theorem dX1_search_1 : decode cX1_search 1 = .ok (.iload_n 1, 1) := by decide +kernel
theorem dX1_search_2 : decode cX1_search 2 = .ok (.putfield 41, 3) := by decide +kernel
theorem dX1_search_5 : decode cX1_search 5 = .ok (.aload_n 0, 1) := by decide +kernel
theorem dX1_search_6 : decode cX1_search 6 = .ok (.ldc 45, 2) := by decide +kernel
theorem dX1_search_8 : decode cX1_search 8 = .ok (.putfield 46, 3) := by decide +kernel
theorem dX1_search_11 : decode cX1_search 11 = .ok (.iconst 0, 1) := by decide +kernel
theorem dX1_search_12 : decode cX1_search 12 = .ok (.istore_n 2, 1) := by decide +kernel
theorem dX1_search_13 : decode cX1_search 13 = .ok (.iload_n 2, 1) := by decide +kernel
theorem dX1_search_14 : decode cX1_search 14 = .ok (.iconst 5, 1) := by decide +kernel
theorem dX1_search_15 : decode cX1_search 15 = .ok (.if_icmp .ge 16, 3) := by decide +kernel
theorem dX1_search_18 : decode cX1_search 18 = .ok (.aload_n 0, 1) := by decide +kernel
theorem dX1_search_19 : decode cX1_search 19 = .ok (.getfield 15, 3) := by decide +kernel
theorem dX1_search_22 : decode cX1_search 22 = .ok (.iload_n 2, 1) := by decide +kernel
theorem dX1_search_23 : decode cX1_search 23 = .ok (.iconst 0, 1) := by decide +kernel
theorem dX1_search_24 : decode cX1_search 24 = .ok (.bastore, 1) := by decide +kernel
theorem dX1_search_25 : decode cX1_search 25 = .ok (.iinc 2 1, 3) := by decide +kernel
theorem dX1_search_28 : decode cX1_search 28 = .ok (.goto (-15), 3) := by decide +kernel
theorem dX1_search_31 : decode cX1_search 31 = .ok (.aload_n 0, 1) := by decide +kernel
theorem dX1_search_32 : decode cX1_search 32 = .ok (.invokevirtual 49, 3) := by decide +kernel
theorem dX1_search_35 : decode cX1_search 35 = .ok (.aload_n 0, 1) := by decide +kernel
theorem dX1_search_36 : decode cX1_search 36 = .ok (.iconst 0, 1) := by decide +kernel
theorem dX1_search_37 : decode cX1_search 37 = .ok (.iconst 0, 1) := by decide +kernel
theorem dX1_search_38 : decode cX1_search 38 = .ok (.invokestatic 52, 3) := by decide +kernel
theorem dX1_search_41 : decode cX1_search 41 = .ok (.return_, 1) := by decide +kernel
set_option maxRecDepth 20000 in
theorem ggX1_findLowest_X6_fits : GoodIn wsX1_findLowest wsX6_fits := goodIn_r _ [16, 17, 18, 88, 89, 90, 91, 92, 93, 94, 95, 96] (by decide +kernel) (by decide +kernel)
set_option maxRecDepth 20000 in
theorem gX1_findLowest_X6_fits : GoodIn wsX1_findLowest (wsV RX1 69 RX6 yX6_fits wsX6_fits) := goodIn_app (goodIn_of _ (by decide +kernel)) ggX1_findLowest_X6_fits
set_option maxRecDepth 20000 in
theorem ggX1_findLowest_X1_withoutDamp : GoodIn wsX1_findLowest wsX1_withoutDamp := goodIn_r _ [23, 24, 4, 25, 26, 27, 5, 28, 29, 30, 31, 32, 33, 34, 35, 36, 37, 38, 39, 40, 41, 42, 43, 44, 45, 46, 10, 47, 48, 49, 50, 15, 51, 52, 53, 54, 55, 56, 57, 58, 59, 60, 61, 62, 63, 64, 65, 66, 17, 67, 9, 11, 68, 69, 70, 71, 72, 73, 74, 75, 76, 77, 78, 79, 80, 81, 82, 83, 84, 85, 86, 87, 97, 98, 99, 100, 101, 102, 103, 88, 89, 90, 91, 92, 93, 94, 95, 96] (by decide +kernel) (by decide +kernel)
set_option maxRecDepth 20000 in
theorem gX1_findLowest_X1_withoutDamp : GoodIn wsX1_findLowest (wsV RX1 73 RX1 yX1_withoutDamp wsX1_withoutDamp) := goodIn_app (goodIn_of _ (by decide +kernel)) ggX1_findLowest_X1_withoutDamp
theorem dX1_findLowest_0 : decode cX1_findLowest 0 = .ok (.aload_n 0, 1) := by decide +kernel
theorem dX1_findLowest_1 : decode cX1_findLowest 1 = .ok (.getfield 24, 3) := by decide +kernel
theorem dX1_findLowest_4 : decode cX1_findLowest 4 = .ok (.aload_n 0, 1) := by decide +kernel
theorem dX1_findLowest_5 : decode cX1_findLowest 5 = .ok (.getfield 30, 3) := by decide +kernel
theorem dX1_findLowest_8 : decode cX1_findLowest 8 = .ok (.getfield 56, 3) := by decide +kernel
theorem dX1_findLowest_11 : decode cX1_findLowest 11 = .ok (.iconst 0, 1) := by decide +kernel
theorem dX1_findLowest_12 : decode cX1_findLowest 12 = .ok (.iastore, 1) := by decide +kernel
theorem dX1_findLowest_13 : decode cX1_findLowest 13 = .ok (.aload_n 0, 1) := by decide +kernel
theorem dX1_findLowest_14 : decode cX1_findLowest 14 = .ok (.getfield 30, 3) := by decide +kernel
theorem dX1_findLowest_17 : decode cX1_findLowest 17 = .ok (.getfield 56, 3) := by decide +kernel
theorem dX1_findLowest_20 : decode cX1_findLowest 20 = .ok (.iconst 1, 1) := by decide +kernel
theorem dX1_findLowest_21 : decode cX1_findLowest 21 = .ok (.isub, 1) := by decide +kernel
theorem dX1_findLowest_22 : decode cX1_findLowest 22 = .ok (.istore_n 1, 1) := by decide +kernel
theorem dX1_findLowest_23 : decode cX1_findLowest 23 = .ok (.iload_n 1, 1) := by decide +kernel
theorem dX1_findLowest_24 : decode cX1_findLowest 24 = .ok (.ifCond .lt 110, 3) := by decide +kernel
theorem dX1_findLowest_27 : decode cX1_findLowest 27 = .ok (.aload_n 0, 1) := by decide +kernel
theorem dX1_findLowest_28 : decode cX1_findLowest 28 = .ok (.getfield 34, 3) := by decide +kernel
theorem dX1_findLowest_31 : decode cX1_findLowest 31 = .ok (.getfield 61, 3) := by decide +kernel
theorem dX1_findLowest_34 : decode cX1_findLowest 34 = .ok (.iload_n 1, 1) := by decide +kernel
theorem dX1_findLowest_35 : decode cX1_findLowest 35 = .ok (.iaload, 1) := by decide +kernel
theorem dX1_findLowest_36 : decode cX1_findLowest 36 = .ok (.istore_n 2, 1) := by decide +kernel
theorem dX1_findLowest_37 : decode cX1_findLowest 37 = .ok (.aload_n 0, 1) := by decide +kernel
theorem dX1_findLowest_38 : decode cX1_findLowest 38 = .ok (.getfield 21, 3) := by decide +kernel
theorem dX1_findLowest_41 : decode cX1_findLowest 41 = .ok (.iload_n 1, 1) := by decide +kernel
theorem dX1_findLowest_42 : decode cX1_findLowest 42 = .ok (.aaload, 1) := by decide +kernel
theorem dX1_findLowest_43 : decode cX1_findLowest 43 = .ok (.iconst 5, 1) := by decide +kernel
theorem dX1_findLowest_44 : decode cX1_findLowest 44 = .ok (.aload_n 0, 1) := by decide +kernel
theorem dX1_findLowest_45 : decode cX1_findLowest 45 = .ok (.getfield 34, 3) := by decide +kernel
theorem dX1_findLowest_48 : decode cX1_findLowest 48 = .ok (.getfield 61, 3) := by decide +kernel
theorem dX1_findLowest_51 : decode cX1_findLowest 51 = .ok (.iload_n 1, 1) := by decide +kernel
theorem dX1_findLowest_52 : decode cX1_findLowest 52 = .ok (.iaload, 1) := by decide +kernel
theorem dX1_findLowest_53 : decode cX1_findLowest 53 = .ok (.iastore, 1) := by decide +kernel
theorem dX1_findLowest_54 : decode cX1_findLowest 54 = .ok (.iconst 0, 1) := by decide +kernel
theorem dX1_findLowest_55 : decode cX1_findLowest 55 = .ok (.istore_n 3, 1) := by decide +kernel
theorem dX1_findLowest_56 : decode cX1_findLowest 56 = .ok (.iload_n 3, 1) := by decide +kernel
theorem dX1_findLowest_57 : decode cX1_findLowest 57 = .ok (.aload_n 0, 1) := by decide +kernel
theorem dX1_findLowest_58 : decode cX1_findLowest 58 = .ok (.getfield 30, 3) := by decide +kernel
theorem dX1_findLowest_61 : decode cX1_findLowest 61 = .ok (.getfield 66, 3) := by decide +kernel
theorem dX1_findLowest_64 : decode cX1_findLowest 64 = .ok (.if_icmp .ge 48, 3) := by decide +kernel
theorem dX1_findLowest_67 : decode cX1_findLowest 67 = .ok (.aload_n 0, 1) := by decide +kernel
theorem dX1_findLowest_68 : decode cX1_findLowest 68 = .ok (.getfield 30, 3) := by decide +kernel
theorem dX1_findLowest_71 : decode cX1_findLowest 71 = .ok (.iload_n 1, 1) := by decide +kernel
theorem dX1_findLowest_72 : decode cX1_findLowest 72 = .ok (.iload_n 3, 1) := by decide +kernel
theorem dX1_findLowest_73 : decode cX1_findLowest 73 = .ok (.invokevirtual 69, 3) := by decide +kernel
theorem dX1_findLowest_76 : decode cX1_findLowest 76 = .ok (.ifCond .eq 30, 3) := by decide +kernel
theorem dX1_findLowest_79 : decode cX1_findLowest 79 = .ok (.aload_n 0, 1) := by decide +kernel
theorem dX1_findLowest_80 : decode cX1_findLowest 80 = .ok (.getfield 21, 3) := by decide +kernel
theorem dX1_findLowest_83 : decode cX1_findLowest 83 = .ok (.iload_n 1, 1) := by decide +kernel
theorem dX1_findLowest_84 : decode cX1_findLowest 84 = .ok (.aaload, 1) := by decide +kernel
theorem dX1_findLowest_85 : decode cX1_findLowest 85 = .ok (.iload_n 3, 1) := by decide +kernel
theorem dX1_findLowest_86 : decode cX1_findLowest 86 = .ok (.aload_n 0, 1) := by decide +kernel
theorem dX1_findLowest_87 : decode cX1_findLowest 87 = .ok (.iload_n 1, 1) := by decide +kernel
theorem dX1_findLowest_88 : decode cX1_findLowest 88 = .ok (.iload_n 3, 1) := by decide +kernel
theorem dX1_findLowest_89 : decode cX1_findLowest 89 = .ok (.invokevirtual 73, 3) := by decide +kernel
theorem dX1_findLowest_92 : decode cX1_findLowest 92 = .ok (.iastore, 1) := by decide +kernel
theorem dX1_findLowest_93 : decode cX1_findLowest 93 = .ok (.iload_n 2, 1) := by decide +kernel
theorem dX1_findLowest_94 : decode cX1_findLowest 94 = .ok (.aload_n 0, 1) := by decide +kernel
theorem dX1_findLowest_95 : decode cX1_findLowest 95 = .ok (.getfield 21, 3) := by decide +kernel
theorem dX1_findLowest_98 : decode cX1_findLowest 98 = .ok (.iload_n 1, 1) := by decide +kernel
theorem dX1_findLowest_99 : decode cX1_findLowest 99 = .ok (.aaload, 1) := by decide +kernel
theorem dX1_findLowest_100 : decode cX1_findLowest 100 = .ok (.iload_n 3, 1) := by decide +kernel
theorem dX1_findLowest_101 : decode cX1_findLowest 101 = .ok (.iaload, 1) := by decide +kernel
theorem dX1_findLowest_102 : decode cX1_findLowest 102 = .ok (.invokestatic 77, 3) := by decide +kernel
theorem dX1_findLowest_105 : decode cX1_findLowest 105 = .ok (.istore_n 2, 1) := by decide +kernel
theorem dX1_findLowest_106 : decode cX1_findLowest 106 = .ok (.iinc 3 1, 3) := by decide +kernel
theorem dX1_findLowest_109 : decode cX1_findLowest 109 = .ok (.goto (-53), 3) := by decide +kernel
theorem dX1_findLowest_112 : decode cX1_findLowest 112 = .ok (.aload_n 0, 1) := by decide +kernel
theorem dX1_findLowest_113 : decode cX1_findLowest 113 = .ok (.getfield 24, 3) := by decide +kernel
theorem dX1_findLowest_116 : decode cX1_findLowest 116 = .ok (.iload_n 1, 1) := by decide +kernel
theorem dX1_findLowest_117 : decode cX1_findLowest 117 = .ok (.aload_n 0, 1) := by decide +kernel
theorem dX1_findLowest_118 : decode cX1_findLowest 118 = .ok (.getfield 24, 3) := by decide +kernel
theorem dX1_findLowest_121 : decode cX1_findLowest 121 = .ok (.iload_n 1, 1) := by decide +kernel
theorem dX1_findLowest_122 : decode cX1_findLowest 122 = .ok (.iconst 1, 1) := by decide +kernel
theorem dX1_findLowest_123 : decode cX1_findLowest 123 = .ok (.iadd, 1) := by decide +kernel
theorem dX1_findLowest_124 : decode cX1_findLowest 124 = .ok (.iaload, 1) := by decide +kernel
theorem dX1_findLowest_125 : decode cX1_findLowest 125 = .ok (.iload_n 2, 1) := by decide +kernel
theorem dX1_findLowest_126 : decode cX1_findLowest 126 = .ok (.iadd, 1) := by decide +kernel
theorem dX1_findLowest_127 : decode cX1_findLowest 127 = .ok (.iastore, 1) := by decide +kernel
theorem dX1_findLowest_128 : decode cX1_findLowest 128 = .ok (.iinc 1 (-1), 3) := by decide +kernel
theorem dX1_findLowest_131 : decode cX1_findLowest 131 = .ok (.goto (-108), 3) := by decide +kernel
theorem dX1_findLowest_134 : decode cX1_findLowest 134 = .ok (.return_, 1) := by decide +kernel
set_option maxRecDepth 20000 in
theorem ggX1_withoutDamp_X3_copy : GoodIn wsX1_withoutDamp wsX3_copy := goodIn_r _ [11, 12, 13, 14, 15, 16, 17, 18, 19, 72, 73, 74, 75, 76, 77, 78, 79, 80, 81, 82, 83, 84, 85, 86, 87] (by decide +kernel) (by decide +kernel)
set_option maxRecDepth 20000 in
theorem gX1_withoutDamp_X3_copy : GoodIn wsX1_withoutDamp (wsV RX1 82 RX3 yX3_copy wsX3_copy) := goodIn_app (goodIn_of _ (by decide +kernel)) ggX1_withoutDamp_X3_copy
set_option maxRecDepth 20000 in
theorem ggX1_withoutDamp_X3_pass : GoodIn wsX1_withoutDamp wsX3_pass := goodIn_r _ [23, 14, 12, 15, 16, 18, 24, 25, 26, 27, 13, 28, 29, 30, 31, 32, 33, 34, 35, 36, 37, 38, 39, 40, 10, 41, 42, 43, 44, 45, 46, 47, 48, 49, 50, 51, 52, 53, 54, 55, 56, 57, 58, 59, 60, 61, 17, 19, 72, 73, 74, 75, 76, 77, 78, 79, 80, 81, 82, 83, 84, 85, 86, 87] (by decide +kernel) (by decide +kernel)
set_option maxRecDepth 20000 in
theorem gX1_withoutDamp_X3_pass : GoodIn wsX1_withoutDamp (wsV RX1 92 RX3 yX3_pass wsX3_pass) := goodIn_app (goodIn_of _ (by decide +kernel)) ggX1_withoutDamp_X3_pass
theorem dX1_withoutDamp_0 : decode cX1_withoutDamp 0 = .ok (.aload_n 0, 1) := by decide +kernel
theorem dX1_withoutDamp_1 : decode cX1_withoutDamp 1 = .ok (.getfield 38, 3) := by decide +kernel
theorem dX1_withoutDamp_4 : decode cX1_withoutDamp 4 = .ok (.aload_n 0, 1) := by decide +kernel
theorem dX1_withoutDamp_5 : decode cX1_withoutDamp 5 = .ok (.getfield 34, 3) := by decide +kernel
theorem dX1_withoutDamp_8 : decode cX1_withoutDamp 8 = .ok (.invokevirtual 82, 3) := by decide +kernel
theorem dX1_withoutDamp_11 : decode cX1_withoutDamp 11 = .ok (.aload_n 0, 1) := by decide +kernel
theorem dX1_withoutDamp_12 : decode cX1_withoutDamp 12 = .ok (.getfield 38, 3) := by decide +kernel
theorem dX1_withoutDamp_15 : decode cX1_withoutDamp 15 = .ok (.getfield 86, 3) := by decide +kernel
theorem dX1_withoutDamp_18 : decode cX1_withoutDamp 18 = .ok (.iload_n 1, 1) := by decide +kernel
theorem dX1_withoutDamp_19 : decode cX1_withoutDamp 19 = .ok (.iload_n 2, 1) := by decide +kernel
theorem dX1_withoutDamp_20 : decode cX1_withoutDamp 20 = .ok (.iastore, 1) := by decide +kernel
theorem dX1_withoutDamp_21 : decode cX1_withoutDamp 21 = .ok (.iconst 0, 1) := by decide +kernel
theorem dX1_withoutDamp_22 : decode cX1_withoutDamp 22 = .ok (.istore_n 3, 1) := by decide +kernel
theorem dX1_withoutDamp_23 : decode cX1_withoutDamp 23 = .ok (.iload_n 3, 1) := by decide +kernel
theorem dX1_withoutDamp_24 : decode cX1_withoutDamp 24 = .ok (.aload_n 0, 1) := by decide +kernel
theorem dX1_withoutDamp_25 : decode cX1_withoutDamp 25 = .ok (.getfield 41, 3) := by decide +kernel
theorem dX1_withoutDamp_28 : decode cX1_withoutDamp 28 = .ok (.if_icmp .ge 25, 3) := by decide +kernel
theorem dX1_withoutDamp_31 : decode cX1_withoutDamp 31 = .ok (.aload_n 0, 1) := by decide +kernel
theorem dX1_withoutDamp_32 : decode cX1_withoutDamp 32 = .ok (.getfield 38, 3) := by decide +kernel
theorem dX1_withoutDamp_35 : decode cX1_withoutDamp 35 = .ok (.iconst 0, 1) := by decide +kernel
theorem dX1_withoutDamp_36 : decode cX1_withoutDamp 36 = .ok (.putfield 89, 3) := by decide +kernel
theorem dX1_withoutDamp_39 : decode cX1_withoutDamp 39 = .ok (.aload_n 0, 1) := by decide +kernel
theorem dX1_withoutDamp_40 : decode cX1_withoutDamp 40 = .ok (.getfield 38, 3) := by decide +kernel
theorem dX1_withoutDamp_43 : decode cX1_withoutDamp 43 = .ok (.invokevirtual 92, 3) := by decide +kernel
theorem dX1_withoutDamp_46 : decode cX1_withoutDamp 46 = .ok (.pop, 1) := by decide +kernel
theorem dX1_withoutDamp_47 : decode cX1_withoutDamp 47 = .ok (.iinc 3 1, 3) := by decide +kernel
theorem dX1_withoutDamp_50 : decode cX1_withoutDamp 50 = .ok (.goto (-27), 3) := by decide +kernel
theorem dX1_withoutDamp_53 : decode cX1_withoutDamp 53 = .ok (.aload_n 0, 1) := by decide +kernel
theorem dX1_withoutDamp_54 : decode cX1_withoutDamp 54 = .ok (.getfield 38, 3) := by decide +kernel
theorem dX1_withoutDamp_57 : decode cX1_withoutDamp 57 = .ok (.getfield 61, 3) := by decide +kernel
theorem dX1_withoutDamp_60 : decode cX1_withoutDamp 60 = .ok (.iload_n 1, 1) := by decide +kernel
theorem dX1_withoutDamp_61 : decode cX1_withoutDamp 61 = .ok (.iaload, 1) := by decide +kernel
theorem dX1_withoutDamp_62 : decode cX1_withoutDamp 62 = .ok (.ireturn, 1) := by decide +kernel
set_option maxRecDepth 20000 in
theorem ggX1_tryFrom_X1_weigh : GoodIn wsX1_tryFrom wsX1_weigh := goodIn_r _ [13, 14, 15, 1, 2, 16, 6, 17, 5, 18, 19, 20, 21, 22, 23, 24, 25, 26, 27, 28, 29, 30, 31, 32, 33, 34, 35, 36, 37, 38, 39, 40, 41, 42, 43, 44, 45, 46, 47, 48, 49, 50, 51, 52, 53, 54, 55, 56, 57, 58, 59, 60, 61, 62, 63, 64, 65, 66, 67, 68, 69, 70, 71, 72, 73, 74, 75, 76, 77, 78, 79, 80, 81, 89, 90, 91, 92, 93, 94, 95, 96, 97, 98, 99, 100, 101, 102, 103, 104, 105, 106, 107, 108, 109, 110, 111, 112, 113, 114] (by decide +kernel) (by decide +kernel)
set_option maxRecDepth 20000 in
theorem gX1_tryFrom_X1_weigh : GoodIn wsX1_tryFrom (wsV RX1 96 RX1 yX1_weigh wsX1_weigh) := goodIn_app (goodIn_of _ (by decide +kernel)) ggX1_tryFrom_X1_weigh
set_option maxRecDepth 20000 in
theorem ggX1_tryFrom_X1_tryFrom : GoodIn wsX1_tryFrom wsX1_tryFrom := goodIn_r _ [0, 1, 2, 3, 4, 5, 6, 7, 8, 9, 10, 11, 12, 13, 14, 15, 16, 17, 18, 19, 20, 21, 22, 23, 24, 25, 26, 27, 28, 29, 30, 31, 32, 33, 34, 35, 36, 37, 38, 39, 40, 41, 42, 43, 44, 45, 46, 47, 48, 49, 50, 51, 52, 53, 54, 55, 56, 57, 58, 59, 60, 61, 62, 63, 64, 65, 66, 67, 68, 69, 70, 71, 72, 73, 74, 75, 76, 77, 78, 79, 80, 81, 82, 83, 84, 85, 86, 87, 88, 89, 90, 91, 92, 93, 94, 95, 96, 97, 98, 99, 100, 101, 102, 103, 104, 105, 106, 107, 108, 109, 110, 111, 112, 113, 114] (by decide +kernel) (by decide +kernel)
set_option maxRecDepth 20000 in
theorem gX1_tryFrom_X1_tryFrom : GoodIn wsX1_tryFrom (va_wsS RX1 52 yX1_tryFrom wsX1_tryFrom) := goodIn_app (goodIn_of _ (by decide +kernel)) ggX1_tryFrom_X1_tryFrom
set_option maxRecDepth 20000 in
theorem ggX1_tryFrom_X6_fits : GoodIn wsX1_tryFrom wsX6_fits := goodIn_r _ [87, 64, 88, 99, 100, 101, 102, 103, 104, 105, 106, 107] (by decide +kernel) (by decide +kernel)
set_option maxRecDepth 20000 in
theorem gX1_tryFrom_X6_fits : GoodIn wsX1_tryFrom (wsV RX1 69 RX6 yX6_fits wsX6_fits) := goodIn_app (goodIn_of _ (by decide +kernel)) ggX1_tryFrom_X6_fits
theorem dX1_tryFrom_0 : decode cX1_tryFrom 0 = .ok (.iload_n 1, 1) := by decide +kernel
theorem dX1_tryFrom_1 : decode cX1_tryFrom 1 = .ok (.aload_n 0, 1) := by decide +kernel
theorem dX1_tryFrom_2 : decode cX1_tryFrom 2 = .ok (.getfield 30, 3) := by decide +kernel
theorem dX1_tryFrom_5 : decode cX1_tryFrom 5 = .ok (.getfield 56, 3) := by decide +kernel
theorem dX1_tryFrom_8 : decode cX1_tryFrom 8 = .ok (.if_icmp .lt 8, 3) := by decide +kernel
theorem dX1_tryFrom_11 : decode cX1_tryFrom 11 = .ok (.aload_n 0, 1) := by decide +kernel
theorem dX1_tryFrom_12 : decode cX1_tryFrom 12 = .ok (.invokevirtual 96, 3) := by decide +kernel
theorem dX1_tryFrom_15 : decode cX1_tryFrom 15 = .ok (.return_, 1) := by decide +kernel
theorem dX1_tryFrom_16 : decode cX1_tryFrom 16 = .ok (.iload_n 2, 1) := by decide +kernel
theorem dX1_tryFrom_17 : decode cX1_tryFrom 17 = .ok (.aload_n 0, 1) := by decide +kernel
theorem dX1_tryFrom_18 : decode cX1_tryFrom 18 = .ok (.getfield 21, 3) := by decide +kernel
theorem dX1_tryFrom_21 : decode cX1_tryFrom 21 = .ok (.iload_n 1, 1) := by decide +kernel
theorem dX1_tryFrom_22 : decode cX1_tryFrom 22 = .ok (.aaload, 1) := by decide +kernel
theorem dX1_tryFrom_23 : decode cX1_tryFrom 23 = .ok (.iconst 5, 1) := by decide +kernel
theorem dX1_tryFrom_24 : decode cX1_tryFrom 24 = .ok (.iaload, 1) := by decide +kernel
theorem dX1_tryFrom_25 : decode cX1_tryFrom 25 = .ok (.iadd, 1) := by decide +kernel
theorem dX1_tryFrom_26 : decode cX1_tryFrom 26 = .ok (.istore_n 3, 1) := by decide +kernel
theorem dX1_tryFrom_27 : decode cX1_tryFrom 27 = .ok (.iload_n 3, 1) := by decide +kernel
theorem dX1_tryFrom_28 : decode cX1_tryFrom 28 = .ok (.aload_n 0, 1) := by decide +kernel
theorem dX1_tryFrom_29 : decode cX1_tryFrom 29 = .ok (.getfield 24, 3) := by decide +kernel
theorem dX1_tryFrom_32 : decode cX1_tryFrom 32 = .ok (.iload_n 1, 1) := by decide +kernel
theorem dX1_tryFrom_33 : decode cX1_tryFrom 33 = .ok (.iconst 1, 1) := by decide +kernel
theorem dX1_tryFrom_34 : decode cX1_tryFrom 34 = .ok (.iadd, 1) := by decide +kernel
theorem dX1_tryFrom_35 : decode cX1_tryFrom 35 = .ok (.iaload, 1) := by decide +kernel
theorem dX1_tryFrom_36 : decode cX1_tryFrom 36 = .ok (.iadd, 1) := by decide +kernel
theorem dX1_tryFrom_37 : decode cX1_tryFrom 37 = .ok (.aload_n 0, 1) := by decide +kernel
theorem dX1_tryFrom_38 : decode cX1_tryFrom 38 = .ok (.getfield 46, 3) := by decide +kernel
theorem dX1_tryFrom_41 : decode cX1_tryFrom 41 = .ok (.if_icmp .ge 19, 3) := by decide +kernel
theorem dX1_tryFrom_44 : decode cX1_tryFrom 44 = .ok (.aload_n 0, 1) := by decide +kernel
theorem dX1_tryFrom_45 : decode cX1_tryFrom 45 = .ok (.getfield 9, 3) := by decide +kernel
theorem dX1_tryFrom_48 : decode cX1_tryFrom 48 = .ok (.iload_n 1, 1) := by decide +kernel
theorem dX1_tryFrom_49 : decode cX1_tryFrom 49 = .ok (.bipush 9, 2) := by decide +kernel
theorem dX1_tryFrom_51 : decode cX1_tryFrom 51 = .ok (.iastore, 1) := by decide +kernel
theorem dX1_tryFrom_52 : decode cX1_tryFrom 52 = .ok (.aload_n 0, 1) := by decide +kernel
theorem dX1_tryFrom_53 : decode cX1_tryFrom 53 = .ok (.iload_n 1, 1) := by decide +kernel
theorem dX1_tryFrom_54 : decode cX1_tryFrom 54 = .ok (.iconst 1, 1) := by decide +kernel
theorem dX1_tryFrom_55 : decode cX1_tryFrom 55 = .ok (.iadd, 1) := by decide +kernel
theorem dX1_tryFrom_56 : decode cX1_tryFrom 56 = .ok (.iload_n 3, 1) := by decide +kernel
theorem dX1_tryFrom_57 : decode cX1_tryFrom 57 = .ok (.invokestatic 52, 3) := by decide +kernel
theorem dX1_tryFrom_60 : decode cX1_tryFrom 60 = .ok (.iconst 0, 1) := by decide +kernel
theorem dX1_tryFrom_61 : decode cX1_tryFrom 61 = .ok (.istore 4, 2) := by decide +kernel
theorem dX1_tryFrom_63 : decode cX1_tryFrom 63 = .ok (.iload 4, 2) := by decide +kernel
theorem dX1_tryFrom_65 : decode cX1_tryFrom 65 = .ok (.aload_n 0, 1) := by decide +kernel
theorem dX1_tryFrom_66 : decode cX1_tryFrom 66 = .ok (.getfield 30, 3) := by decide +kernel
theorem dX1_tryFrom_69 : decode cX1_tryFrom 69 = .ok (.getfield 66, 3) := by decide +kernel
theorem dX1_tryFrom_72 : decode cX1_tryFrom 72 = .ok (.if_icmp .ge 99, 3) := by decide +kernel
theorem dX1_tryFrom_75 : decode cX1_tryFrom 75 = .ok (.aload_n 0, 1) := by decide +kernel
theorem dX1_tryFrom_76 : decode cX1_tryFrom 76 = .ok (.getfield 15, 3) := by decide +kernel
theorem dX1_tryFrom_79 : decode cX1_tryFrom 79 = .ok (.iload 4, 2) := by decide +kernel
theorem dX1_tryFrom_81 : decode cX1_tryFrom 81 = .ok (.baload, 1) := by decide +kernel
theorem dX1_tryFrom_82 : decode cX1_tryFrom 82 = .ok (.ifCond .ne 83, 3) := by decide +kernel
theorem dX1_tryFrom_85 : decode cX1_tryFrom 85 = .ok (.aload_n 0, 1) := by decide +kernel
theorem dX1_tryFrom_86 : decode cX1_tryFrom 86 = .ok (.getfield 30, 3) := by decide +kernel
theorem dX1_tryFrom_89 : decode cX1_tryFrom 89 = .ok (.iload_n 1, 1) := by decide +kernel
theorem dX1_tryFrom_90 : decode cX1_tryFrom 90 = .ok (.iload 4, 2) := by decide +kernel
theorem dX1_tryFrom_92 : decode cX1_tryFrom 92 = .ok (.invokevirtual 69, 3) := by decide +kernel
theorem dX1_tryFrom_95 : decode cX1_tryFrom 95 = .ok (.ifCond .ne 6, 3) := by decide +kernel
theorem dX1_tryFrom_98 : decode cX1_tryFrom 98 = .ok (.goto 67, 3) := by decide +kernel
theorem dX1_tryFrom_101 : decode cX1_tryFrom 101 = .ok (.iload_n 2, 1) := by decide +kernel
theorem dX1_tryFrom_102 : decode cX1_tryFrom 102 = .ok (.aload_n 0, 1) := by decide +kernel
theorem dX1_tryFrom_103 : decode cX1_tryFrom 103 = .ok (.getfield 21, 3) := by decide +kernel
theorem dX1_tryFrom_106 : decode cX1_tryFrom 106 = .ok (.iload_n 1, 1) := by decide +kernel
theorem dX1_tryFrom_107 : decode cX1_tryFrom 107 = .ok (.aaload, 1) := by decide +kernel
theorem dX1_tryFrom_108 : decode cX1_tryFrom 108 = .ok (.iload 4, 2) := by decide +kernel
theorem dX1_tryFrom_110 : decode cX1_tryFrom 110 = .ok (.iaload, 1) := by decide +kernel
theorem dX1_tryFrom_111 : decode cX1_tryFrom 111 = .ok (.iadd, 1) := by decide +kernel
theorem dX1_tryFrom_112 : decode cX1_tryFrom 112 = .ok (.istore 5, 2) := by decide +kernel
theorem dX1_tryFrom_114 : decode cX1_tryFrom 114 = .ok (.iload 5, 2) := by decide +kernel
theorem dX1_tryFrom_116 : decode cX1_tryFrom 116 = .ok (.aload_n 0, 1) := by decide +kernel
theorem dX1_tryFrom_117 : decode cX1_tryFrom 117 = .ok (.getfield 24, 3) := by decide +kernel
theorem dX1_tryFrom_120 : decode cX1_tryFrom 120 = .ok (.iload_n 1, 1) := by decide +kernel
theorem dX1_tryFrom_121 : decode cX1_tryFrom 121 = .ok (.iconst 1, 1) := by decide +kernel
theorem dX1_tryFrom_122 : decode cX1_tryFrom 122 = .ok (.iadd, 1) := by decide +kernel
theorem dX1_tryFrom_123 : decode cX1_tryFrom 123 = .ok (.iaload, 1) := by decide +kernel
theorem dX1_tryFrom_124 : decode cX1_tryFrom 124 = .ok (.iadd, 1) := by decide +kernel
theorem dX1_tryFrom_125 : decode cX1_tryFrom 125 = .ok (.aload_n 0, 1) := by decide +kernel
theorem dX1_tryFrom_126 : decode cX1_tryFrom 126 = .ok (.getfield 46, 3) := by decide +kernel
theorem dX1_tryFrom_129 : decode cX1_tryFrom 129 = .ok (.if_icmp .ge 36, 3) := by decide +kernel
theorem dX1_tryFrom_132 : decode cX1_tryFrom 132 = .ok (.aload_n 0, 1) := by decide +kernel
theorem dX1_tryFrom_133 : decode cX1_tryFrom 133 = .ok (.getfield 9, 3) := by decide +kernel
theorem dX1_tryFrom_136 : decode cX1_tryFrom 136 = .ok (.iload_n 1, 1) := by decide +kernel
theorem dX1_tryFrom_137 : decode cX1_tryFrom 137 = .ok (.iload 4, 2) := by decide +kernel
theorem dX1_tryFrom_139 : decode cX1_tryFrom 139 = .ok (.iastore, 1) := by decide +kernel
theorem dX1_tryFrom_140 : decode cX1_tryFrom 140 = .ok (.aload_n 0, 1) := by decide +kernel
theorem dX1_tryFrom_141 : decode cX1_tryFrom 141 = .ok (.getfield 15, 3) := by decide +kernel
theorem dX1_tryFrom_144 : decode cX1_tryFrom 144 = .ok (.iload 4, 2) := by decide +kernel
theorem dX1_tryFrom_146 : decode cX1_tryFrom 146 = .ok (.iconst 1, 1) := by decide +kernel
theorem dX1_tryFrom_147 : decode cX1_tryFrom 147 = .ok (.bastore, 1) := by decide +kernel
theorem dX1_tryFrom_148 : decode cX1_tryFrom 148 = .ok (.aload_n 0, 1) := by decide +kernel
theorem dX1_tryFrom_149 : decode cX1_tryFrom 149 = .ok (.iload_n 1, 1) := by decide +kernel
theorem dX1_tryFrom_150 : decode cX1_tryFrom 150 = .ok (.iconst 1, 1) := by decide +kernel
theorem dX1_tryFrom_151 : decode cX1_tryFrom 151 = .ok (.iadd, 1) := by decide +kernel
theorem dX1_tryFrom_152 : decode cX1_tryFrom 152 = .ok (.iload 5, 2) := by decide +kernel
theorem dX1_tryFrom_154 : decode cX1_tryFrom 154 = .ok (.invokestatic 52, 3) := by decide +kernel
theorem dX1_tryFrom_157 : decode cX1_tryFrom 157 = .ok (.aload_n 0, 1) := by decide +kernel
theorem dX1_tryFrom_158 : decode cX1_tryFrom 158 = .ok (.getfield 15, 3) := by decide +kernel
theorem dX1_tryFrom_161 : decode cX1_tryFrom 161 = .ok (.iload 4, 2) := by decide +kernel
theorem dX1_tryFrom_163 : decode cX1_tryFrom 163 = .ok (.iconst 0, 1) := by decide +kernel
theorem dX1_tryFrom_164 : decode cX1_tryFrom 164 = .ok (.bastore, 1) := by decide +kernel
theorem dX1_tryFrom_165 : decode cX1_tryFrom 165 = .ok (.iinc 4 1, 3) := by decide +kernel
theorem dX1_tryFrom_168 : decode cX1_tryFrom 168 = .ok (.goto (-105), 3) := by decide +kernel
theorem dX1_tryFrom_171 : decode cX1_tryFrom 171 = .ok (.return_, 1) := by decide +kernel
set_option maxRecDepth 20000 in
theorem ggX1_weigh_X3_copy : GoodIn wsX1_weigh wsX3_copy := goodIn_r _ [18, 19, 20, 21, 22, 23, 24, 25, 26, 92, 93, 94, 95, 96, 97, 98, 83, 84, 85, 86, 87, 88, 89, 90, 91] (by decide +kernel) (by decide +kernel)
set_option maxRecDepth 20000 in
theorem gX1_weigh_X3_copy : GoodIn wsX1_weigh (wsV RX1 82 RX3 yX3_copy wsX3_copy) := goodIn_app (goodIn_of _ (by decide +kernel)) ggX1_weigh_X3_copy
set_option maxRecDepth 20000 in
theorem ggX1_weigh_X3_pass : GoodIn wsX1_weigh wsX3_pass := goodIn_r _ [30, 21, 19, 22, 23, 25, 31, 32, 33, 34, 20, 35, 36, 37, 38, 39, 40, 41, 42, 43, 44, 45, 46, 47, 17, 48, 49, 50, 51, 52, 53, 54, 55, 56, 57, 58, 59, 60, 61, 62, 63, 64, 65, 66, 67, 68, 24, 26, 92, 93, 94, 95, 96, 97, 98, 83, 84, 85, 86, 87, 88, 89, 90, 91] (by decide +kernel) (by decide +kernel)
set_option maxRecDepth 20000 in
theorem gX1_weigh_X3_pass : GoodIn wsX1_weigh (wsV RX1 92 RX3 yX3_pass wsX3_pass) := goodIn_app (goodIn_of _ (by decide +kernel)) ggX1_weigh_X3_pass
set_option maxRecDepth 20000 in
theorem ggX1_weigh_X3_allWater : GoodIn wsX1_weigh wsX3_allWater := goodIn_r _ [72, 21, 22, 23, 92, 93, 94, 95, 96, 97, 98, 83, 84, 85, 86, 87, 88, 89, 90, 91] (by decide +kernel) (by decide +kernel)
set_option maxRecDepth 20000 in
theorem gX1_weigh_X3_allWater : GoodIn wsX1_weigh (wsV RX1 99 RX3 yX3_allWater wsX3_allWater) := goodIn_app (goodIn_of _ (by decide +kernel)) ggX1_weigh_X3_allWater
theorem dX1_weigh_0 : decode cX1_weigh 0 = .ok (.aload_n 0, 1) := by decide +kernel
theorem dX1_weigh_1 : decode cX1_weigh 1 = .ok (.getfield 38, 3) := by decide +kernel
theorem dX1_weigh_4 : decode cX1_weigh 4 = .ok (.aload_n 0, 1) := by decide +kernel
theorem dX1_weigh_5 : decode cX1_weigh 5 = .ok (.getfield 34, 3) := by decide +kernel
theorem dX1_weigh_8 : decode cX1_weigh 8 = .ok (.invokevirtual 82, 3) := by decide +kernel
theorem dX1_weigh_11 : decode cX1_weigh 11 = .ok (.iconst 0, 1) := by decide +kernel
theorem dX1_weigh_12 : decode cX1_weigh 12 = .ok (.istore_n 1, 1) := by decide +kernel
theorem dX1_weigh_13 : decode cX1_weigh 13 = .ok (.iload_n 1, 1) := by decide +kernel
theorem dX1_weigh_14 : decode cX1_weigh 14 = .ok (.aload_n 0, 1) := by decide +kernel
theorem dX1_weigh_15 : decode cX1_weigh 15 = .ok (.getfield 30, 3) := by decide +kernel
theorem dX1_weigh_18 : decode cX1_weigh 18 = .ok (.getfield 56, 3) := by decide +kernel
theorem dX1_weigh_21 : decode cX1_weigh 21 = .ok (.if_icmp .ge 24, 3) := by decide +kernel
theorem dX1_weigh_24 : decode cX1_weigh 24 = .ok (.aload_n 0, 1) := by decide +kernel
theorem dX1_weigh_25 : decode cX1_weigh 25 = .ok (.getfield 38, 3) := by decide +kernel
theorem dX1_weigh_28 : decode cX1_weigh 28 = .ok (.getfield 86, 3) := by decide +kernel
theorem dX1_weigh_31 : decode cX1_weigh 31 = .ok (.iload_n 1, 1) := by decide +kernel
theorem dX1_weigh_32 : decode cX1_weigh 32 = .ok (.aload_n 0, 1) := by decide +kernel
theorem dX1_weigh_33 : decode cX1_weigh 33 = .ok (.getfield 9, 3) := by decide +kernel
theorem dX1_weigh_36 : decode cX1_weigh 36 = .ok (.iload_n 1, 1) := by decide +kernel
theorem dX1_weigh_37 : decode cX1_weigh 37 = .ok (.iaload, 1) := by decide +kernel
theorem dX1_weigh_38 : decode cX1_weigh 38 = .ok (.iastore, 1) := by decide +kernel
theorem dX1_weigh_39 : decode cX1_weigh 39 = .ok (.iinc 1 1, 3) := by decide +kernel
theorem dX1_weigh_42 : decode cX1_weigh 42 = .ok (.goto (-29), 3) := by decide +kernel
theorem dX1_weigh_45 : decode cX1_weigh 45 = .ok (.iconst 0, 1) := by decide +kernel
theorem dX1_weigh_46 : decode cX1_weigh 46 = .ok (.istore_n 1, 1) := by decide +kernel
theorem dX1_weigh_47 : decode cX1_weigh 47 = .ok (.iload_n 1, 1) := by decide +kernel
theorem dX1_weigh_48 : decode cX1_weigh 48 = .ok (.aload_n 0, 1) := by decide +kernel
theorem dX1_weigh_49 : decode cX1_weigh 49 = .ok (.getfield 41, 3) := by decide +kernel
theorem dX1_weigh_52 : decode cX1_weigh 52 = .ok (.if_icmp .ge 17, 3) := by decide +kernel
theorem dX1_weigh_55 : decode cX1_weigh 55 = .ok (.aload_n 0, 1) := by decide +kernel
theorem dX1_weigh_56 : decode cX1_weigh 56 = .ok (.getfield 38, 3) := by decide +kernel
theorem dX1_weigh_59 : decode cX1_weigh 59 = .ok (.invokevirtual 92, 3) := by decide +kernel
theorem dX1_weigh_62 : decode cX1_weigh 62 = .ok (.pop, 1) := by decide +kernel
theorem dX1_weigh_63 : decode cX1_weigh 63 = .ok (.iinc 1 1, 3) := by decide +kernel
theorem dX1_weigh_66 : decode cX1_weigh 66 = .ok (.goto (-19), 3) := by decide +kernel
theorem dX1_weigh_69 : decode cX1_weigh 69 = .ok (.aload_n 0, 1) := by decide +kernel
theorem dX1_weigh_70 : decode cX1_weigh 70 = .ok (.getfield 38, 3) := by decide +kernel
theorem dX1_weigh_73 : decode cX1_weigh 73 = .ok (.invokevirtual 99, 3) := by decide +kernel
theorem dX1_weigh_76 : decode cX1_weigh 76 = .ok (.istore_n 1, 1) := by decide +kernel
theorem dX1_weigh_77 : decode cX1_weigh 77 = .ok (.iload_n 1, 1) := by decide +kernel
theorem dX1_weigh_78 : decode cX1_weigh 78 = .ok (.aload_n 0, 1) := by decide +kernel
theorem dX1_weigh_79 : decode cX1_weigh 79 = .ok (.getfield 46, 3) := by decide +kernel
theorem dX1_weigh_82 : decode cX1_weigh 82 = .ok (.if_icmp .ge 23, 3) := by decide +kernel
theorem dX1_weigh_85 : decode cX1_weigh 85 = .ok (.aload_n 0, 1) := by decide +kernel
theorem dX1_weigh_86 : decode cX1_weigh 86 = .ok (.iload_n 1, 1) := by decide +kernel
theorem dX1_weigh_87 : decode cX1_weigh 87 = .ok (.putfield 46, 3) := by decide +kernel
theorem dX1_weigh_90 : decode cX1_weigh 90 = .ok (.aload_n 0, 1) := by decide +kernel
theorem dX1_weigh_91 : decode cX1_weigh 91 = .ok (.getfield 9, 3) := by decide +kernel
theorem dX1_weigh_94 : decode cX1_weigh 94 = .ok (.iconst 0, 1) := by decide +kernel
theorem dX1_weigh_95 : decode cX1_weigh 95 = .ok (.aload_n 0, 1) := by decide +kernel
theorem dX1_weigh_96 : decode cX1_weigh 96 = .ok (.getfield 27, 3) := by decide +kernel
theorem dX1_weigh_99 : decode cX1_weigh 99 = .ok (.iconst 0, 1) := by decide +kernel
theorem dX1_weigh_100 : decode cX1_weigh 100 = .ok (.bipush 6, 2) := by decide +kernel
theorem dX1_weigh_102 : decode cX1_weigh 102 = .ok (.invokestatic 102, 3) := by decide +kernel
theorem dX1_weigh_105 : decode cX1_weigh 105 = .ok (.return_, 1) := by decide +kernel
theorem dX2_init_0 : decode cX2_init 0 = .ok (.aload_n 0, 1) := by decide +kernel
theorem dX2_init_1 : decode cX2_init 1 = .ok (.invokespecial 1, 3) := by decide +kernel
theorem dX2_init_4 : decode cX2_init 4 = .ok (.aload_n 0, 1) := by decide +kernel
theorem dX2_init_5 : decode cX2_init 5 = .ok (.aload_n 1, 1) := by decide +kernel
theorem dX2_init_6 : decode cX2_init 6 = .ok (.putfield 7, 3) := by decide +kernel
theorem dX2_init_9 : decode cX2_init 9 = .ok (.aload_n 0, 1) := by decide +kernel
theorem dX2_init_10 : decode cX2_init 10 = .ok (.aload_n 2, 1) := by decide +kernel
theorem dX2_init_11 : decode cX2_init 11 = .ok (.putfield 13, 3) := by decide +kernel
theorem dX2_init_14 : decode cX2_init 14 = .ok (.return_, 1) := by decide +kernel
set_option maxRecDepth 20000 in
theorem ggX2_as_X2_asWet : GoodIn wsX2_as wsX2_asWet := goodIn_r _ [5, 6, 7, 8, 9, 10, 4, 11, 12, 13, 39, 40, 41, 42, 43, 44, 45, 46, 47, 48] (by decide +kernel) (by decide +kernel)
set_option maxRecDepth 20000 in
theorem gX2_as_X2_asWet : GoodIn wsX2_as (wsV RX2 17 RX2 yX2_asWet wsX2_asWet) := goodIn_app (goodIn_of _ (by decide +kernel)) ggX2_as_X2_asWet
set_option maxRecDepth 20000 in
theorem ggX2_as_X2_asDrying : GoodIn wsX2_as wsX2_asDrying := goodIn_r _ [17, 6, 18, 19, 20, 8, 9, 10, 4, 11, 12, 13, 39, 40, 41, 49, 50, 51, 52, 53, 54, 55, 56, 57, 42, 43, 44, 45, 46, 47, 48] (by decide +kernel) (by decide +kernel)
set_option maxRecDepth 20000 in
theorem gX2_as_X2_asDrying : GoodIn wsX2_as (wsV RX2 21 RX2 yX2_asDrying wsX2_asDrying) := goodIn_app (goodIn_of _ (by decide +kernel)) ggX2_as_X2_asDrying
set_option maxRecDepth 20000 in
theorem ggX2_as_X2_asRainedOn : GoodIn wsX2_as wsX2_asRainedOn := goodIn_r _ [24, 6, 25, 19, 26, 1, 2, 3, 4, 5, 7, 8, 9, 10, 11, 12, 13, 39, 40, 41, 49, 50, 51, 52, 53, 54, 55, 56, 57, 42, 43, 44, 45, 46, 47, 48] (by decide +kernel) (by decide +kernel)
set_option maxRecDepth 20000 in
theorem gX2_as_X2_asRainedOn : GoodIn wsX2_as (wsV RX2 24 RX2 yX2_asRainedOn wsX2_asRainedOn) := goodIn_app (goodIn_of _ (by decide +kernel)) ggX2_as_X2_asRainedOn
set_option maxRecDepth 20000 in
theorem ggX2_as_X2_asSmelling : GoodIn wsX2_as wsX2_asSmelling := goodIn_r _ [30, 6, 31, 12, 32, 14, 15, 16, 4, 17, 18, 19, 20, 8, 9, 10, 11, 13, 39, 40, 41, 42, 43, 44, 45, 46, 47, 48, 49, 50, 51, 52, 53, 54, 55, 56, 57] (by decide +kernel) (by decide +kernel)
set_option maxRecDepth 20000 in
theorem gX2_as_X2_asSmelling : GoodIn wsX2_as (wsV RX2 27 RX2 yX2_asSmelling wsX2_asSmelling) := goodIn_app (goodIn_of _ (by decide +kernel)) ggX2_as_X2_asSmelling
set_option maxRecDepth 20000 in
theorem ggX2_as_X2_asFrozen : GoodIn wsX2_as wsX2_asFrozen := goodIn_r _ [36, 6, 37, 12, 38, 8, 9, 10, 4, 11, 13, 39, 40, 41, 42, 43, 44, 45, 46, 47, 48] (by decide +kernel) (by decide +kernel)
set_option maxRecDepth 20000 in
theorem gX2_as_X2_asFrozen : GoodIn wsX2_as (wsV RX2 30 RX2 yX2_asFrozen wsX2_asFrozen) := goodIn_app (goodIn_of _ (by decide +kernel)) ggX2_as_X2_asFrozen
set_option maxRecDepth 20000 in
theorem ggX2_as_X2_asPiece : GoodIn wsX2_as wsX2_asPiece := goodIn_r _ [11, 6, 12, 13, 39, 40, 41, 42, 43, 44, 45, 46, 47, 48] (by decide +kernel) (by decide +kernel)
set_option maxRecDepth 20000 in
theorem gX2_as_X2_asPiece : GoodIn wsX2_as (wsV RX2 33 RX2 yX2_asPiece wsX2_asPiece) := goodIn_app (goodIn_of _ (by decide +kernel)) ggX2_as_X2_asPiece
theorem dX2_as_0 : decode cX2_as 0 = .ok (.iload_n 1, 1) := by decide +kernel
theorem dX2_as_1 : decode cX2_as 1 = .ok (.tableswitch 65 1 5 #[35, 41, 47, 53, 59], 35) := by decide +kernel
theorem dX2_as_36 : decode cX2_as 36 = .ok (.aload_n 0, 1) := by decide +kernel
theorem dX2_as_37 : decode cX2_as 37 = .ok (.iload_n 2, 1) := by decide +kernel
theorem dX2_as_38 : decode cX2_as 38 = .ok (.invokevirtual 17, 3) := by decide +kernel
theorem dX2_as_41 : decode cX2_as 41 = .ok (.ireturn, 1) := by decide +kernel
theorem dX2_as_42 : decode cX2_as 42 = .ok (.aload_n 0, 1) := by decide +kernel
theorem dX2_as_43 : decode cX2_as 43 = .ok (.iload_n 2, 1) := by decide +kernel
theorem dX2_as_44 : decode cX2_as 44 = .ok (.invokevirtual 21, 3) := by decide +kernel
theorem dX2_as_47 : decode cX2_as 47 = .ok (.ireturn, 1) := by decide +kernel
theorem dX2_as_48 : decode cX2_as 48 = .ok (.aload_n 0, 1) := by decide +kernel
theorem dX2_as_49 : decode cX2_as 49 = .ok (.iload_n 2, 1) := by decide +kernel
theorem dX2_as_50 : decode cX2_as 50 = .ok (.invokevirtual 24, 3) := by decide +kernel
theorem dX2_as_53 : decode cX2_as 53 = .ok (.ireturn, 1) := by decide +kernel
theorem dX2_as_54 : decode cX2_as 54 = .ok (.aload_n 0, 1) := by decide +kernel
theorem dX2_as_55 : decode cX2_as 55 = .ok (.iload_n 2, 1) := by decide +kernel
theorem dX2_as_56 : decode cX2_as 56 = .ok (.invokevirtual 27, 3) := by decide +kernel
theorem dX2_as_59 : decode cX2_as 59 = .ok (.ireturn, 1) := by decide +kernel
theorem dX2_as_60 : decode cX2_as 60 = .ok (.aload_n 0, 1) := by decide +kernel
theorem dX2_as_61 : decode cX2_as 61 = .ok (.iload_n 2, 1) := by decide +kernel
theorem dX2_as_62 : decode cX2_as 62 = .ok (.invokevirtual 30, 3) := by decide +kernel
theorem dX2_as_65 : decode cX2_as 65 = .ok (.ireturn, 1) := by decide +kernel
theorem dX2_as_66 : decode cX2_as 66 = .ok (.aload_n 0, 1) := by decide +kernel
theorem dX2_as_67 : decode cX2_as 67 = .ok (.iload_n 2, 1) := by decide +kernel
theorem dX2_as_68 : decode cX2_as 68 = .ok (.invokevirtual 33, 3) := by decide +kernel
theorem dX2_as_71 : decode cX2_as 71 = .ok (.ireturn, 1) := by decide +kernel
theorem dX2_asPiece_0 : decode cX2_asPiece 0 = .ok (.aload_n 0, 1) := by decide +kernel
theorem dX2_asPiece_1 : decode cX2_asPiece 1 = .ok (.dup, 1) := by decide +kernel
theorem dX2_asPiece_2 : decode cX2_asPiece 2 = .ok (.getfield 36, 3) := by decide +kernel
theorem dX2_asPiece_5 : decode cX2_asPiece 5 = .ok (.lconst 1, 1) := by decide +kernel
theorem dX2_asPiece_6 : decode cX2_asPiece 6 = .ok (.ladd, 1) := by decide +kernel
theorem dX2_asPiece_7 : decode cX2_asPiece 7 = .ok (.putfield 36, 3) := by decide +kernel
theorem dX2_asPiece_10 : decode cX2_asPiece 10 = .ok (.aload_n 0, 1) := by decide +kernel
theorem dX2_asPiece_11 : decode cX2_asPiece 11 = .ok (.getfield 13, 3) := by decide +kernel
theorem dX2_asPiece_14 : decode cX2_asPiece 14 = .ok (.getfield 40, 3) := by decide +kernel
theorem dX2_asPiece_17 : decode cX2_asPiece 17 = .ok (.iload_n 1, 1) := by decide +kernel
theorem dX2_asPiece_18 : decode cX2_asPiece 18 = .ok (.iaload, 1) := by decide +kernel
theorem dX2_asPiece_19 : decode cX2_asPiece 19 = .ok (.ireturn, 1) := by decide +kernel
set_option maxRecDepth 20000 in
theorem ggX2_asWet_X2_asPiece : GoodIn wsX2_asWet wsX2_asPiece := goodIn_r _ [7, 1, 8, 9, 10, 11, 12, 13, 14, 15, 16, 17, 18, 19] (by decide +kernel) (by decide +kernel)
set_option maxRecDepth 20000 in
theorem gX2_asWet_X2_asPiece : GoodIn wsX2_asWet (wsV RX2 33 RX2 yX2_asPiece wsX2_asPiece) := goodIn_app (goodIn_of _ (by decide +kernel)) ggX2_asWet_X2_asPiece
theorem dX2_asWet_0 : decode cX2_asWet 0 = .ok (.aload_n 0, 1) := by decide +kernel
theorem dX2_asWet_1 : decode cX2_asWet 1 = .ok (.dup, 1) := by decide +kernel
theorem dX2_asWet_2 : decode cX2_asWet 2 = .ok (.getfield 36, 3) := by decide +kernel
theorem dX2_asWet_5 : decode cX2_asWet 5 = .ok (.ldc2_w 46, 3) := by decide +kernel
theorem dX2_asWet_8 : decode cX2_asWet 8 = .ok (.ladd, 1) := by decide +kernel
theorem dX2_asWet_9 : decode cX2_asWet 9 = .ok (.putfield 36, 3) := by decide +kernel
theorem dX2_asWet_12 : decode cX2_asWet 12 = .ok (.iconst 2, 1) := by decide +kernel
theorem dX2_asWet_13 : decode cX2_asWet 13 = .ok (.aload_n 0, 1) := by decide +kernel
theorem dX2_asWet_14 : decode cX2_asWet 14 = .ok (.iload_n 1, 1) := by decide +kernel
theorem dX2_asWet_15 : decode cX2_asWet 15 = .ok (.invokevirtual 33, 3) := by decide +kernel
theorem dX2_asWet_18 : decode cX2_asWet 18 = .ok (.imul, 1) := by decide +kernel
theorem dX2_asWet_19 : decode cX2_asWet 19 = .ok (.ireturn, 1) := by decide +kernel
set_option maxRecDepth 20000 in
theorem ggX2_asDrying_X2_asPiece : GoodIn wsX2_asDrying wsX2_asPiece := goodIn_r _ [9, 1, 10, 11, 12, 13, 14, 24, 25, 26, 27, 28, 29, 30] (by decide +kernel) (by decide +kernel)
set_option maxRecDepth 20000 in
theorem gX2_asDrying_X2_asPiece : GoodIn wsX2_asDrying (wsV RX2 33 RX2 yX2_asPiece wsX2_asPiece) := goodIn_app (goodIn_of _ (by decide +kernel)) ggX2_asDrying_X2_asPiece
theorem dX2_asDrying_0 : decode cX2_asDrying 0 = .ok (.aload_n 0, 1) := by decide +kernel
theorem dX2_asDrying_1 : decode cX2_asDrying 1 = .ok (.dup, 1) := by decide +kernel
theorem dX2_asDrying_2 : decode cX2_asDrying 2 = .ok (.getfield 36, 3) := by decide +kernel
theorem dX2_asDrying_5 : decode cX2_asDrying 5 = .ok (.ldc2_w 48, 3) := by decide +kernel
theorem dX2_asDrying_8 : decode cX2_asDrying 8 = .ok (.ladd, 1) := by decide +kernel
theorem dX2_asDrying_9 : decode cX2_asDrying 9 = .ok (.putfield 36, 3) := by decide +kernel
theorem dX2_asDrying_12 : decode cX2_asDrying 12 = .ok (.aload_n 0, 1) := by decide +kernel
theorem dX2_asDrying_13 : decode cX2_asDrying 13 = .ok (.iload_n 1, 1) := by decide +kernel
theorem dX2_asDrying_14 : decode cX2_asDrying 14 = .ok (.invokevirtual 33, 3) := by decide +kernel
theorem dX2_asDrying_17 : decode cX2_asDrying 17 = .ok (.aload_n 0, 1) := by decide +kernel
theorem dX2_asDrying_18 : decode cX2_asDrying 18 = .ok (.getfield 7, 3) := by decide +kernel
theorem dX2_asDrying_21 : decode cX2_asDrying 21 = .ok (.getfield 50, 3) := by decide +kernel
theorem dX2_asDrying_24 : decode cX2_asDrying 24 = .ok (.iload_n 1, 1) := by decide +kernel
theorem dX2_asDrying_25 : decode cX2_asDrying 25 = .ok (.iaload, 1) := by decide +kernel
theorem dX2_asDrying_26 : decode cX2_asDrying 26 = .ok (.isub, 1) := by decide +kernel
theorem dX2_asDrying_27 : decode cX2_asDrying 27 = .ok (.ireturn, 1) := by decide +kernel
set_option maxRecDepth 20000 in
theorem ggX2_asRainedOn_X2_asWet : GoodIn wsX2_asRainedOn wsX2_asWet := goodIn_r _ [9, 1, 10, 11, 12, 13, 8, 14, 15, 16, 17, 18, 19, 29, 30, 31, 32, 33, 34, 35] (by decide +kernel) (by decide +kernel)
set_option maxRecDepth 20000 in
theorem gX2_asRainedOn_X2_asWet : GoodIn wsX2_asRainedOn (wsV RX2 17 RX2 yX2_asWet wsX2_asWet) := goodIn_app (goodIn_of _ (by decide +kernel)) ggX2_asRainedOn_X2_asWet
theorem dX2_asRainedOn_0 : decode cX2_asRainedOn 0 = .ok (.aload_n 0, 1) := by decide +kernel
theorem dX2_asRainedOn_1 : decode cX2_asRainedOn 1 = .ok (.dup, 1) := by decide +kernel
theorem dX2_asRainedOn_2 : decode cX2_asRainedOn 2 = .ok (.getfield 36, 3) := by decide +kernel
theorem dX2_asRainedOn_5 : decode cX2_asRainedOn 5 = .ok (.ldc2_w 55, 3) := by decide +kernel
theorem dX2_asRainedOn_8 : decode cX2_asRainedOn 8 = .ok (.ladd, 1) := by decide +kernel
theorem dX2_asRainedOn_9 : decode cX2_asRainedOn 9 = .ok (.putfield 36, 3) := by decide +kernel
theorem dX2_asRainedOn_12 : decode cX2_asRainedOn 12 = .ok (.aload_n 0, 1) := by decide +kernel
theorem dX2_asRainedOn_13 : decode cX2_asRainedOn 13 = .ok (.iload_n 1, 1) := by decide +kernel
theorem dX2_asRainedOn_14 : decode cX2_asRainedOn 14 = .ok (.invokevirtual 17, 3) := by decide +kernel
theorem dX2_asRainedOn_17 : decode cX2_asRainedOn 17 = .ok (.aload_n 0, 1) := by decide +kernel
theorem dX2_asRainedOn_18 : decode cX2_asRainedOn 18 = .ok (.getfield 7, 3) := by decide +kernel
theorem dX2_asRainedOn_21 : decode cX2_asRainedOn 21 = .ok (.getfield 57, 3) := by decide +kernel
theorem dX2_asRainedOn_24 : decode cX2_asRainedOn 24 = .ok (.iload_n 1, 1) := by decide +kernel
theorem dX2_asRainedOn_25 : decode cX2_asRainedOn 25 = .ok (.iaload, 1) := by decide +kernel
theorem dX2_asRainedOn_26 : decode cX2_asRainedOn 26 = .ok (.iadd, 1) := by decide +kernel
theorem dX2_asRainedOn_27 : decode cX2_asRainedOn 27 = .ok (.ireturn, 1) := by decide +kernel
set_option maxRecDepth 20000 in
theorem ggX2_asSmelling_X2_asDrying : GoodIn wsX2_asSmelling wsX2_asDrying := goodIn_r _ [9, 1, 10, 11, 12, 13, 14, 15, 8, 16, 3, 17, 18, 19, 20, 28, 29, 30, 31, 32, 33, 34, 35, 36, 21, 22, 23, 24, 25, 26, 27] (by decide +kernel) (by decide +kernel)
set_option maxRecDepth 20000 in
theorem gX2_asSmelling_X2_asDrying : GoodIn wsX2_asSmelling (wsV RX2 21 RX2 yX2_asDrying wsX2_asDrying) := goodIn_app (goodIn_of _ (by decide +kernel)) ggX2_asSmelling_X2_asDrying
theorem dX2_asSmelling_0 : decode cX2_asSmelling 0 = .ok (.aload_n 0, 1) := by decide +kernel
theorem dX2_asSmelling_1 : decode cX2_asSmelling 1 = .ok (.dup, 1) := by decide +kernel
theorem dX2_asSmelling_2 : decode cX2_asSmelling 2 = .ok (.getfield 36, 3) := by decide +kernel
theorem dX2_asSmelling_5 : decode cX2_asSmelling 5 = .ok (.ldc2_w 60, 3) := by decide +kernel
theorem dX2_asSmelling_8 : decode cX2_asSmelling 8 = .ok (.ladd, 1) := by decide +kernel
theorem dX2_asSmelling_9 : decode cX2_asSmelling 9 = .ok (.putfield 36, 3) := by decide +kernel
theorem dX2_asSmelling_12 : decode cX2_asSmelling 12 = .ok (.aload_n 0, 1) := by decide +kernel
theorem dX2_asSmelling_13 : decode cX2_asSmelling 13 = .ok (.iload_n 1, 1) := by decide +kernel
theorem dX2_asSmelling_14 : decode cX2_asSmelling 14 = .ok (.invokevirtual 21, 3) := by decide +kernel
theorem dX2_asSmelling_17 : decode cX2_asSmelling 17 = .ok (.aload_n 0, 1) := by decide +kernel
theorem dX2_asSmelling_18 : decode cX2_asSmelling 18 = .ok (.getfield 13, 3) := by decide +kernel
theorem dX2_asSmelling_21 : decode cX2_asSmelling 21 = .ok (.getfield 62, 3) := by decide +kernel
theorem dX2_asSmelling_24 : decode cX2_asSmelling 24 = .ok (.iload_n 1, 1) := by decide +kernel
theorem dX2_asSmelling_25 : decode cX2_asSmelling 25 = .ok (.iaload, 1) := by decide +kernel
theorem dX2_asSmelling_26 : decode cX2_asSmelling 26 = .ok (.iadd, 1) := by decide +kernel
theorem dX2_asSmelling_27 : decode cX2_asSmelling 27 = .ok (.ireturn, 1) := by decide +kernel
set_option maxRecDepth 20000 in
theorem ggX2_asFrozen_X2_asPiece : GoodIn wsX2_asFrozen wsX2_asPiece := goodIn_r _ [9, 1, 3, 10, 11, 12, 13, 14, 15, 16, 17, 18, 19, 20] (by decide +kernel) (by decide +kernel)
set_option maxRecDepth 20000 in
theorem gX2_asFrozen_X2_asPiece : GoodIn wsX2_asFrozen (wsV RX2 33 RX2 yX2_asPiece wsX2_asPiece) := goodIn_app (goodIn_of _ (by decide +kernel)) ggX2_asFrozen_X2_asPiece
theorem dX2_asFrozen_0 : decode cX2_asFrozen 0 = .ok (.aload_n 0, 1) := by decide +kernel
theorem dX2_asFrozen_1 : decode cX2_asFrozen 1 = .ok (.dup, 1) := by decide +kernel
theorem dX2_asFrozen_2 : decode cX2_asFrozen 2 = .ok (.getfield 36, 3) := by decide +kernel
theorem dX2_asFrozen_5 : decode cX2_asFrozen 5 = .ok (.ldc2_w 65, 3) := by decide +kernel
theorem dX2_asFrozen_8 : decode cX2_asFrozen 8 = .ok (.ladd, 1) := by decide +kernel
theorem dX2_asFrozen_9 : decode cX2_asFrozen 9 = .ok (.putfield 36, 3) := by decide +kernel
theorem dX2_asFrozen_12 : decode cX2_asFrozen 12 = .ok (.aload_n 0, 1) := by decide +kernel
theorem dX2_asFrozen_13 : decode cX2_asFrozen 13 = .ok (.iload_n 1, 1) := by decide +kernel
theorem dX2_asFrozen_14 : decode cX2_asFrozen 14 = .ok (.invokevirtual 33, 3) := by decide +kernel
theorem dX2_asFrozen_17 : decode cX2_asFrozen 17 = .ok (.aload_n 0, 1) := by decide +kernel
theorem dX2_asFrozen_18 : decode cX2_asFrozen 18 = .ok (.getfield 13, 3) := by decide +kernel
theorem dX2_asFrozen_21 : decode cX2_asFrozen 21 = .ok (.getfield 67, 3) := by decide +kernel
theorem dX2_asFrozen_24 : decode cX2_asFrozen 24 = .ok (.isub, 1) := by decide +kernel
theorem dX2_asFrozen_25 : decode cX2_asFrozen 25 = .ok (.ireturn, 1) := by decide +kernel
theorem dX3_init_0 : decode cX3_init 0 = .ok (.aload_n 0, 1) := by decide +kernel
theorem dX3_init_1 : decode cX3_init 1 = .ok (.invokespecial 3, 3) := by decide +kernel
theorem dX3_init_4 : decode cX3_init 4 = .ok (.aload_n 0, 1) := by decide +kernel
theorem dX3_init_5 : decode cX3_init 5 = .ok (.bipush 6, 2) := by decide +kernel
theorem dX3_init_7 : decode cX3_init 7 = .ok (.newarray .int, 2) := by decide +kernel
theorem dX3_init_9 : decode cX3_init 9 = .ok (.putfield 9, 3) := by decide +kernel
theorem dX3_init_12 : decode cX3_init 12 = .ok (.aload_n 0, 1) := by decide +kernel
theorem dX3_init_13 : decode cX3_init 13 = .ok (.bipush 6, 2) := by decide +kernel
theorem dX3_init_15 : decode cX3_init 15 = .ok (.newarray .int, 2) := by decide +kernel
theorem dX3_init_17 : decode cX3_init 17 = .ok (.putfield 15, 3) := by decide +kernel
theorem dX3_init_20 : decode cX3_init 20 = .ok (.aload_n 0, 1) := by decide +kernel
theorem dX3_init_21 : decode cX3_init 21 = .ok (.bipush 6, 2) := by decide +kernel
theorem dX3_init_23 : decode cX3_init 23 = .ok (.newarray .int, 2) := by decide +kernel
theorem dX3_init_25 : decode cX3_init 25 = .ok (.putfield 18, 3) := by decide +kernel
theorem dX3_init_28 : decode cX3_init 28 = .ok (.aload_n 0, 1) := by decide +kernel
theorem dX3_init_29 : decode cX3_init 29 = .ok (.bipush 6, 2) := by decide +kernel
theorem dX3_init_31 : decode cX3_init 31 = .ok (.newarray .boolean, 2) := by decide +kernel
theorem dX3_init_33 : decode cX3_init 33 = .ok (.putfield 21, 3) := by decide +kernel
theorem dX3_init_36 : decode cX3_init 36 = .ok (.aload_n 0, 1) := by decide +kernel
theorem dX3_init_37 : decode cX3_init 37 = .ok (.aload_n 1, 1) := by decide +kernel
theorem dX3_init_38 : decode cX3_init 38 = .ok (.putfield 25, 3) := by decide +kernel
theorem dX3_init_41 : decode cX3_init 41 = .ok (.return_, 1) := by decide +kernel
theorem dX3_begin_0 : decode cX3_begin 0 = .ok (.aload_n 0, 1) := by decide +kernel
theorem dX3_begin_1 : decode cX3_begin 1 = .ok (.iconst 0, 1) := by decide +kernel
theorem dX3_begin_2 : decode cX3_begin 2 = .ok (.putfield 29, 3) := by decide +kernel
theorem dX3_begin_5 : decode cX3_begin 5 = .ok (.aload_n 0, 1) := by decide +kernel
theorem dX3_begin_6 : decode cX3_begin 6 = .ok (.iconst 0, 1) := by decide +kernel
theorem dX3_begin_7 : decode cX3_begin 7 = .ok (.putfield 33, 3) := by decide +kernel
theorem dX3_begin_10 : decode cX3_begin 10 = .ok (.iconst 0, 1) := by decide +kernel
theorem dX3_begin_11 : decode cX3_begin 11 = .ok (.istore_n 1, 1) := by decide +kernel
theorem dX3_begin_12 : decode cX3_begin 12 = .ok (.iload_n 1, 1) := by decide +kernel
theorem dX3_begin_13 : decode cX3_begin 13 = .ok (.aload_n 0, 1) := by decide +kernel
theorem dX3_begin_14 : decode cX3_begin 14 = .ok (.getfield 25, 3) := by decide +kernel
theorem dX3_begin_17 : decode cX3_begin 17 = .ok (.getfield 36, 3) := by decide +kernel
theorem dX3_begin_20 : decode cX3_begin 20 = .ok (.if_icmp .ge 46, 3) := by decide +kernel
theorem dX3_begin_23 : decode cX3_begin 23 = .ok (.aload_n 0, 1) := by decide +kernel
theorem dX3_begin_24 : decode cX3_begin 24 = .ok (.getfield 9, 3) := by decide +kernel
theorem dX3_begin_27 : decode cX3_begin 27 = .ok (.iload_n 1, 1) := by decide +kernel
theorem dX3_begin_28 : decode cX3_begin 28 = .ok (.aload_n 0, 1) := by decide +kernel
theorem dX3_begin_29 : decode cX3_begin 29 = .ok (.getfield 25, 3) := by decide +kernel
theorem dX3_begin_32 : decode cX3_begin 32 = .ok (.getfield 41, 3) := by decide +kernel
theorem dX3_begin_35 : decode cX3_begin 35 = .ok (.iload_n 1, 1) := by decide +kernel
theorem dX3_begin_36 : decode cX3_begin 36 = .ok (.iaload, 1) := by decide +kernel
theorem dX3_begin_37 : decode cX3_begin 37 = .ok (.iastore, 1) := by decide +kernel
theorem dX3_begin_38 : decode cX3_begin 38 = .ok (.aload_n 0, 1) := by decide +kernel
theorem dX3_begin_39 : decode cX3_begin 39 = .ok (.getfield 15, 3) := by decide +kernel
theorem dX3_begin_42 : decode cX3_begin 42 = .ok (.iload_n 1, 1) := by decide +kernel
theorem dX3_begin_43 : decode cX3_begin 43 = .ok (.iconst 0, 1) := by decide +kernel
theorem dX3_begin_44 : decode cX3_begin 44 = .ok (.iastore, 1) := by decide +kernel
theorem dX3_begin_45 : decode cX3_begin 45 = .ok (.aload_n 0, 1) := by decide +kernel
theorem dX3_begin_46 : decode cX3_begin 46 = .ok (.getfield 18, 3) := by decide +kernel
theorem dX3_begin_49 : decode cX3_begin 49 = .ok (.iload_n 1, 1) := by decide +kernel
theorem dX3_begin_50 : decode cX3_begin 50 = .ok (.bipush 9, 2) := by decide +kernel
theorem dX3_begin_52 : decode cX3_begin 52 = .ok (.iastore, 1) := by decide +kernel
theorem dX3_begin_53 : decode cX3_begin 53 = .ok (.aload_n 0, 1) := by decide +kernel
theorem dX3_begin_54 : decode cX3_begin 54 = .ok (.getfield 21, 3) := by decide +kernel
theorem dX3_begin_57 : decode cX3_begin 57 = .ok (.iload_n 1, 1) := by decide +kernel
theorem dX3_begin_58 : decode cX3_begin 58 = .ok (.iconst 0, 1) := by decide +kernel
theorem dX3_begin_59 : decode cX3_begin 59 = .ok (.bastore, 1) := by decide +kernel
theorem dX3_begin_60 : decode cX3_begin 60 = .ok (.iinc 1 1, 3) := by decide +kernel
theorem dX3_begin_63 : decode cX3_begin 63 = .ok (.goto (-51), 3) := by decide +kernel
theorem dX3_begin_66 : decode cX3_begin 66 = .ok (.return_, 1) := by decide +kernel
theorem dX3_copy_0 : decode cX3_copy 0 = .ok (.aload_n 0, 1) := by decide +kernel
theorem dX3_copy_1 : decode cX3_copy 1 = .ok (.aload_n 1, 1) := by decide +kernel
theorem dX3_copy_2 : decode cX3_copy 2 = .ok (.getfield 29, 3) := by decide +kernel
theorem dX3_copy_5 : decode cX3_copy 5 = .ok (.putfield 29, 3) := by decide +kernel
theorem dX3_copy_8 : decode cX3_copy 8 = .ok (.aload_n 0, 1) := by decide +kernel
theorem dX3_copy_9 : decode cX3_copy 9 = .ok (.aload_n 1, 1) := by decide +kernel
theorem dX3_copy_10 : decode cX3_copy 10 = .ok (.getfield 33, 3) := by decide +kernel
theorem dX3_copy_13 : decode cX3_copy 13 = .ok (.putfield 33, 3) := by decide +kernel
theorem dX3_copy_16 : decode cX3_copy 16 = .ok (.iconst 0, 1) := by decide +kernel
theorem dX3_copy_17 : decode cX3_copy 17 = .ok (.istore_n 2, 1) := by decide +kernel
theorem dX3_copy_18 : decode cX3_copy 18 = .ok (.iload_n 2, 1) := by decide +kernel
theorem dX3_copy_19 : decode cX3_copy 19 = .ok (.aload_n 0, 1) := by decide +kernel
theorem dX3_copy_20 : decode cX3_copy 20 = .ok (.getfield 25, 3) := by decide +kernel
theorem dX3_copy_23 : decode cX3_copy 23 = .ok (.getfield 36, 3) := by decide +kernel
theorem dX3_copy_26 : decode cX3_copy 26 = .ok (.if_icmp .ge 57, 3) := by decide +kernel
theorem dX3_copy_29 : decode cX3_copy 29 = .ok (.aload_n 0, 1) := by decide +kernel
theorem dX3_copy_30 : decode cX3_copy 30 = .ok (.getfield 9, 3) := by decide +kernel
theorem dX3_copy_33 : decode cX3_copy 33 = .ok (.iload_n 2, 1) := by decide +kernel
theorem dX3_copy_34 : decode cX3_copy 34 = .ok (.aload_n 1, 1) := by decide +kernel
theorem dX3_copy_35 : decode cX3_copy 35 = .ok (.getfield 9, 3) := by decide +kernel
theorem dX3_copy_38 : decode cX3_copy 38 = .ok (.iload_n 2, 1) := by decide +kernel
theorem dX3_copy_39 : decode cX3_copy 39 = .ok (.iaload, 1) := by decide +kernel
theorem dX3_copy_40 : decode cX3_copy 40 = .ok (.iastore, 1) := by decide +kernel
theorem dX3_copy_41 : decode cX3_copy 41 = .ok (.aload_n 0, 1) := by decide +kernel
theorem dX3_copy_42 : decode cX3_copy 42 = .ok (.getfield 15, 3) := by decide +kernel
theorem dX3_copy_45 : decode cX3_copy 45 = .ok (.iload_n 2, 1) := by decide +kernel
theorem dX3_copy_46 : decode cX3_copy 46 = .ok (.aload_n 1, 1) := by decide +kernel
theorem dX3_copy_47 : decode cX3_copy 47 = .ok (.getfield 15, 3) := by decide +kernel
theorem dX3_copy_50 : decode cX3_copy 50 = .ok (.iload_n 2, 1) := by decide +kernel
theorem dX3_copy_51 : decode cX3_copy 51 = .ok (.iaload, 1) := by decide +kernel
theorem dX3_copy_52 : decode cX3_copy 52 = .ok (.iastore, 1) := by decide +kernel
theorem dX3_copy_53 : decode cX3_copy 53 = .ok (.aload_n 0, 1) := by decide +kernel
theorem dX3_copy_54 : decode cX3_copy 54 = .ok (.getfield 18, 3) := by decide +kernel
theorem dX3_copy_57 : decode cX3_copy 57 = .ok (.iload_n 2, 1) := by decide +kernel
theorem dX3_copy_58 : decode cX3_copy 58 = .ok (.aload_n 1, 1) := by decide +kernel
theorem dX3_copy_59 : decode cX3_copy 59 = .ok (.getfield 18, 3) := by decide +kernel
theorem dX3_copy_62 : decode cX3_copy 62 = .ok (.iload_n 2, 1) := by decide +kernel
theorem dX3_copy_63 : decode cX3_copy 63 = .ok (.iaload, 1) := by decide +kernel
theorem dX3_copy_64 : decode cX3_copy 64 = .ok (.iastore, 1) := by decide +kernel
theorem dX3_copy_65 : decode cX3_copy 65 = .ok (.aload_n 0, 1) := by decide +kernel
theorem dX3_copy_66 : decode cX3_copy 66 = .ok (.getfield 21, 3) := by decide +kernel
theorem dX3_copy_69 : decode cX3_copy 69 = .ok (.iload_n 2, 1) := by decide +kernel
theorem dX3_copy_70 : decode cX3_copy 70 = .ok (.aload_n 1, 1) := by decide +kernel
theorem dX3_copy_71 : decode cX3_copy 71 = .ok (.getfield 21, 3) := by decide +kernel
theorem dX3_copy_74 : decode cX3_copy 74 = .ok (.iload_n 2, 1) := by decide +kernel
theorem dX3_copy_75 : decode cX3_copy 75 = .ok (.baload, 1) := by decide +kernel
theorem dX3_copy_76 : decode cX3_copy 76 = .ok (.bastore, 1) := by decide +kernel
theorem dX3_copy_77 : decode cX3_copy 77 = .ok (.iinc 2 1, 3) := by decide +kernel
theorem dX3_copy_80 : decode cX3_copy 80 = .ok (.goto (-62), 3) := by decide +kernel
theorem dX3_copy_83 : decode cX3_copy 83 = .ok (.return_, 1) := by decide +kernel
set_option maxRecDepth 20000 in
theorem ggX3_pass_X6_skyIn : GoodIn wsX3_pass wsX6_skyIn := goodIn_r _ [15, 16, 17, 18, 19, 20, 55, 56, 57, 58, 59, 60, 61, 62, 63] (by decide +kernel) (by decide +kernel)
set_option maxRecDepth 20000 in
theorem gX3_pass_X6_skyIn : GoodIn wsX3_pass (wsV RX3 42 RX6 yX6_skyIn wsX6_skyIn) := goodIn_app (goodIn_of _ (by decide +kernel)) ggX3_pass_X6_skyIn
set_option maxRecDepth 20000 in
theorem ggX3_pass_X3_hangs : GoodIn wsX3_pass wsX3_hangs := goodIn_r _ [25, 5, 1, 26, 18, 19, 20, 48, 49, 50, 51, 52, 53, 54, 55, 56, 57, 58, 59, 60, 61, 62, 63] (by decide +kernel) (by decide +kernel)
set_option maxRecDepth 20000 in
theorem gX3_pass_X3_hangs : GoodIn wsX3_pass (wsV RX3 52 RX3 yX3_hangs wsX3_hangs) := goodIn_app (goodIn_of _ (by decide +kernel)) ggX3_pass_X3_hangs
set_option maxRecDepth 20000 in
theorem ggX3_pass_X6_soaked : GoodIn wsX3_pass wsX6_soaked := goodIn_r _ [30, 31, 32, 33, 34, 8, 35, 55, 56, 57, 58, 59, 60, 61, 62, 63] (by decide +kernel) (by decide +kernel)
set_option maxRecDepth 20000 in
theorem gX3_pass_X6_soaked : GoodIn wsX3_pass (wsV RX3 56 RX6 yX6_soaked wsX6_soaked) := goodIn_app (goodIn_of _ (by decide +kernel)) ggX3_pass_X6_soaked
set_option maxRecDepth 20000 in
theorem ggX3_pass_X3_pull : GoodIn wsX3_pass wsX3_pull := goodIn_r _ [39, 1, 40, 5, 41, 10, 6, 7, 8, 9, 48, 49, 50, 51, 52, 53, 54, 55, 56, 57, 58, 59, 60, 61, 62, 63] (by decide +kernel) (by decide +kernel)
set_option maxRecDepth 20000 in
theorem gX3_pass_X3_pull : GoodIn wsX3_pass (wsV RX3 60 RX3 yX3_pull wsX3_pull) := goodIn_app (goodIn_of _ (by decide +kernel)) ggX3_pass_X3_pull
set_option maxRecDepth 20000 in
theorem ggX3_pass_X3_grow : GoodIn wsX3_pass wsX3_grow := goodIn_r _ [45, 46, 4, 47, 48, 49, 50, 51, 52, 53, 54] (by decide +kernel) (by decide +kernel)
set_option maxRecDepth 20000 in
theorem gX3_pass_X3_grow : GoodIn wsX3_pass (wsV RX3 63 RX3 yX3_grow wsX3_grow) := goodIn_app (goodIn_of _ (by decide +kernel)) ggX3_pass_X3_grow
theorem dX3_pass_0 : decode cX3_pass 0 = .ok (.aload_n 0, 1) := by decide +kernel
theorem dX3_pass_1 : decode cX3_pass 1 = .ok (.getfield 25, 3) := by decide +kernel
theorem dX3_pass_4 : decode cX3_pass 4 = .ok (.aload_n 0, 1) := by decide +kernel
theorem dX3_pass_5 : decode cX3_pass 5 = .ok (.getfield 29, 3) := by decide +kernel
theorem dX3_pass_8 : decode cX3_pass 8 = .ok (.invokevirtual 42, 3) := by decide +kernel
theorem dX3_pass_11 : decode cX3_pass 11 = .ok (.istore_n 1, 1) := by decide +kernel
theorem dX3_pass_12 : decode cX3_pass 12 = .ok (.iconst 0, 1) := by decide +kernel
theorem dX3_pass_13 : decode cX3_pass 13 = .ok (.istore_n 2, 1) := by decide +kernel
theorem dX3_pass_14 : decode cX3_pass 14 = .ok (.iconst 0, 1) := by decide +kernel
theorem dX3_pass_15 : decode cX3_pass 15 = .ok (.istore_n 3, 1) := by decide +kernel
theorem dX3_pass_16 : decode cX3_pass 16 = .ok (.iload_n 3, 1) := by decide +kernel
theorem dX3_pass_17 : decode cX3_pass 17 = .ok (.aload_n 0, 1) := by decide +kernel
theorem dX3_pass_18 : decode cX3_pass 18 = .ok (.getfield 25, 3) := by decide +kernel
theorem dX3_pass_21 : decode cX3_pass 21 = .ok (.getfield 36, 3) := by decide +kernel
theorem dX3_pass_24 : decode cX3_pass 24 = .ok (.if_icmp .ge 123, 3) := by decide +kernel
theorem dX3_pass_27 : decode cX3_pass 27 = .ok (.aload_n 0, 1) := by decide +kernel
theorem dX3_pass_28 : decode cX3_pass 28 = .ok (.getfield 9, 3) := by decide +kernel
theorem dX3_pass_31 : decode cX3_pass 31 = .ok (.iload_n 3, 1) := by decide +kernel
theorem dX3_pass_32 : decode cX3_pass 32 = .ok (.iaload, 1) := by decide +kernel
theorem dX3_pass_33 : decode cX3_pass 33 = .ok (.istore 4, 2) := by decide +kernel
theorem dX3_pass_35 : decode cX3_pass 35 = .ok (.aload_n 0, 1) := by decide +kernel
theorem dX3_pass_36 : decode cX3_pass 36 = .ok (.getfield 18, 3) := by decide +kernel
theorem dX3_pass_39 : decode cX3_pass 39 = .ok (.iload_n 3, 1) := by decide +kernel
theorem dX3_pass_40 : decode cX3_pass 40 = .ok (.iaload, 1) := by decide +kernel
theorem dX3_pass_41 : decode cX3_pass 41 = .ok (.bipush 8, 2) := by decide +kernel
theorem dX3_pass_43 : decode cX3_pass 43 = .ok (.if_icmp .ne 20, 3) := by decide +kernel
theorem dX3_pass_46 : decode cX3_pass 46 = .ok (.aload_n 0, 1) := by decide +kernel
theorem dX3_pass_47 : decode cX3_pass 47 = .ok (.getfield 9, 3) := by decide +kernel
theorem dX3_pass_50 : decode cX3_pass 50 = .ok (.iload_n 3, 1) := by decide +kernel
theorem dX3_pass_51 : decode cX3_pass 51 = .ok (.iconst 0, 1) := by decide +kernel
theorem dX3_pass_52 : decode cX3_pass 52 = .ok (.iload 4, 2) := by decide +kernel
theorem dX3_pass_54 : decode cX3_pass 54 = .ok (.iconst 1, 1) := by decide +kernel
theorem dX3_pass_55 : decode cX3_pass 55 = .ok (.isub, 1) := by decide +kernel
theorem dX3_pass_56 : decode cX3_pass 56 = .ok (.invokestatic 46, 3) := by decide +kernel
theorem dX3_pass_59 : decode cX3_pass 59 = .ok (.iastore, 1) := by decide +kernel
theorem dX3_pass_60 : decode cX3_pass 60 = .ok (.goto 76, 3) := by decide +kernel
theorem dX3_pass_63 : decode cX3_pass 63 = .ok (.aload_n 0, 1) := by decide +kernel
theorem dX3_pass_64 : decode cX3_pass 64 = .ok (.iload_n 3, 1) := by decide +kernel
theorem dX3_pass_65 : decode cX3_pass 65 = .ok (.invokevirtual 52, 3) := by decide +kernel
theorem dX3_pass_68 : decode cX3_pass 68 = .ok (.ifCond .eq 29, 3) := by decide +kernel
theorem dX3_pass_71 : decode cX3_pass 71 = .ok (.iload_n 1, 1) := by decide +kernel
theorem dX3_pass_72 : decode cX3_pass 72 = .ok (.ifCond .ge 25, 3) := by decide +kernel
theorem dX3_pass_75 : decode cX3_pass 75 = .ok (.aload_n 0, 1) := by decide +kernel
theorem dX3_pass_76 : decode cX3_pass 76 = .ok (.getfield 9, 3) := by decide +kernel
theorem dX3_pass_79 : decode cX3_pass 79 = .ok (.iload_n 3, 1) := by decide +kernel
theorem dX3_pass_80 : decode cX3_pass 80 = .ok (.aload_n 0, 1) := by decide +kernel
theorem dX3_pass_81 : decode cX3_pass 81 = .ok (.getfield 25, 3) := by decide +kernel
theorem dX3_pass_84 : decode cX3_pass 84 = .ok (.iload_n 3, 1) := by decide +kernel
theorem dX3_pass_85 : decode cX3_pass 85 = .ok (.iload 4, 2) := by decide +kernel
theorem dX3_pass_87 : decode cX3_pass 87 = .ok (.iload_n 1, 1) := by decide +kernel
theorem dX3_pass_88 : decode cX3_pass 88 = .ok (.ineg, 1) := by decide +kernel
theorem dX3_pass_89 : decode cX3_pass 89 = .ok (.iconst 1, 1) := by decide +kernel
theorem dX3_pass_90 : decode cX3_pass 90 = .ok (.invokevirtual 56, 3) := by decide +kernel
theorem dX3_pass_93 : decode cX3_pass 93 = .ok (.iastore, 1) := by decide +kernel
theorem dX3_pass_94 : decode cX3_pass 94 = .ok (.goto 42, 3) := by decide +kernel
theorem dX3_pass_97 : decode cX3_pass 97 = .ok (.aload_n 0, 1) := by decide +kernel
theorem dX3_pass_98 : decode cX3_pass 98 = .ok (.iload_n 3, 1) := by decide +kernel
theorem dX3_pass_99 : decode cX3_pass 99 = .ok (.invokevirtual 52, 3) := by decide +kernel
theorem dX3_pass_102 : decode cX3_pass 102 = .ok (.ifCond .eq 34, 3) := by decide +kernel
theorem dX3_pass_105 : decode cX3_pass 105 = .ok (.aload_n 0, 1) := by decide +kernel
theorem dX3_pass_106 : decode cX3_pass 106 = .ok (.getfield 9, 3) := by decide +kernel
theorem dX3_pass_109 : decode cX3_pass 109 = .ok (.iload_n 3, 1) := by decide +kernel
theorem dX3_pass_110 : decode cX3_pass 110 = .ok (.iconst 0, 1) := by decide +kernel
theorem dX3_pass_111 : decode cX3_pass 111 = .ok (.iload 4, 2) := by decide +kernel
theorem dX3_pass_113 : decode cX3_pass 113 = .ok (.aload_n 0, 1) := by decide +kernel
theorem dX3_pass_114 : decode cX3_pass 114 = .ok (.iload_n 3, 1) := by decide +kernel
theorem dX3_pass_115 : decode cX3_pass 115 = .ok (.iload_n 1, 1) := by decide +kernel
theorem dX3_pass_116 : decode cX3_pass 116 = .ok (.invokevirtual 60, 3) := by decide +kernel
theorem dX3_pass_119 : decode cX3_pass 119 = .ok (.isub, 1) := by decide +kernel
theorem dX3_pass_120 : decode cX3_pass 120 = .ok (.invokestatic 46, 3) := by decide +kernel
theorem dX3_pass_123 : decode cX3_pass 123 = .ok (.iastore, 1) := by decide +kernel
theorem dX3_pass_124 : decode cX3_pass 124 = .ok (.iload_n 2, 1) := by decide +kernel
theorem dX3_pass_125 : decode cX3_pass 125 = .ok (.iload 4, 2) := by decide +kernel
theorem dX3_pass_127 : decode cX3_pass 127 = .ok (.aload_n 0, 1) := by decide +kernel
theorem dX3_pass_128 : decode cX3_pass 128 = .ok (.getfield 9, 3) := by decide +kernel
theorem dX3_pass_131 : decode cX3_pass 131 = .ok (.iload_n 3, 1) := by decide +kernel
theorem dX3_pass_132 : decode cX3_pass 132 = .ok (.iaload, 1) := by decide +kernel
theorem dX3_pass_133 : decode cX3_pass 133 = .ok (.isub, 1) := by decide +kernel
theorem dX3_pass_134 : decode cX3_pass 134 = .ok (.iadd, 1) := by decide +kernel
theorem dX3_pass_135 : decode cX3_pass 135 = .ok (.istore_n 2, 1) := by decide +kernel
theorem dX3_pass_136 : decode cX3_pass 136 = .ok (.aload_n 0, 1) := by decide +kernel
theorem dX3_pass_137 : decode cX3_pass 137 = .ok (.iload_n 3, 1) := by decide +kernel
theorem dX3_pass_138 : decode cX3_pass 138 = .ok (.invokevirtual 63, 3) := by decide +kernel
theorem dX3_pass_141 : decode cX3_pass 141 = .ok (.iinc 3 1, 3) := by decide +kernel
theorem dX3_pass_144 : decode cX3_pass 144 = .ok (.goto (-128), 3) := by decide +kernel
theorem dX3_pass_147 : decode cX3_pass 147 = .ok (.aload_n 0, 1) := by decide +kernel
theorem dX3_pass_148 : decode cX3_pass 148 = .ok (.aload_n 0, 1) := by decide +kernel
theorem dX3_pass_149 : decode cX3_pass 149 = .ok (.getfield 33, 3) := by decide +kernel
theorem dX3_pass_152 : decode cX3_pass 152 = .ok (.iconst 2, 1) := by decide +kernel
theorem dX3_pass_153 : decode cX3_pass 153 = .ok (.idiv, 1) := by decide +kernel
theorem dX3_pass_154 : decode cX3_pass 154 = .ok (.iload_n 2, 1) := by decide +kernel
theorem dX3_pass_155 : decode cX3_pass 155 = .ok (.bipush 8, 2) := by decide +kernel
theorem dX3_pass_157 : decode cX3_pass 157 = .ok (.idiv, 1) := by decide +kernel
theorem dX3_pass_158 : decode cX3_pass 158 = .ok (.iadd, 1) := by decide +kernel
theorem dX3_pass_159 : decode cX3_pass 159 = .ok (.putfield 33, 3) := by decide +kernel
theorem dX3_pass_162 : decode cX3_pass 162 = .ok (.aload_n 0, 1) := by decide +kernel
theorem dX3_pass_163 : decode cX3_pass 163 = .ok (.dup, 1) := by decide +kernel
theorem dX3_pass_164 : decode cX3_pass 164 = .ok (.getfield 29, 3) := by decide +kernel
theorem dX3_pass_167 : decode cX3_pass 167 = .ok (.iconst 1, 1) := by decide +kernel
theorem dX3_pass_168 : decode cX3_pass 168 = .ok (.iadd, 1) := by decide +kernel
theorem dX3_pass_169 : decode cX3_pass 169 = .ok (.putfield 29, 3) := by decide +kernel
theorem dX3_pass_172 : decode cX3_pass 172 = .ok (.iload_n 2, 1) := by decide +kernel
theorem dX3_pass_173 : decode cX3_pass 173 = .ok (.ireturn, 1) := by decide +kernel
theorem dX3_pull_0 : decode cX3_pull 0 = .ok (.iconst 0, 1) := by decide +kernel
theorem dX3_pull_1 : decode cX3_pull 1 = .ok (.iload_n 2, 1) := by decide +kernel
theorem dX3_pull_2 : decode cX3_pull 2 = .ok (.aload_n 0, 1) := by decide +kernel
theorem dX3_pull_3 : decode cX3_pull 3 = .ok (.getfield 25, 3) := by decide +kernel
theorem dX3_pull_6 : decode cX3_pull 6 = .ok (.getfield 67, 3) := by decide +kernel
theorem dX3_pull_9 : decode cX3_pull 9 = .ok (.aload_n 0, 1) := by decide +kernel
theorem dX3_pull_10 : decode cX3_pull 10 = .ok (.getfield 18, 3) := by decide +kernel
theorem dX3_pull_13 : decode cX3_pull 13 = .ok (.iload_n 1, 1) := by decide +kernel
theorem dX3_pull_14 : decode cX3_pull 14 = .ok (.iaload, 1) := by decide +kernel
theorem dX3_pull_15 : decode cX3_pull 15 = .ok (.iaload, 1) := by decide +kernel
theorem dX3_pull_16 : decode cX3_pull 16 = .ok (.iadd, 1) := by decide +kernel
theorem dX3_pull_17 : decode cX3_pull 17 = .ok (.aload_n 0, 1) := by decide +kernel
theorem dX3_pull_18 : decode cX3_pull 18 = .ok (.getfield 25, 3) := by decide +kernel
theorem dX3_pull_21 : decode cX3_pull 21 = .ok (.getfield 70, 3) := by decide +kernel
theorem dX3_pull_24 : decode cX3_pull 24 = .ok (.iload_n 1, 1) := by decide +kernel
theorem dX3_pull_25 : decode cX3_pull 25 = .ok (.iaload, 1) := by decide +kernel
theorem dX3_pull_26 : decode cX3_pull 26 = .ok (.imul, 1) := by decide +kernel
theorem dX3_pull_27 : decode cX3_pull 27 = .ok (.aload_n 0, 1) := by decide +kernel
theorem dX3_pull_28 : decode cX3_pull 28 = .ok (.getfield 33, 3) := by decide +kernel
theorem dX3_pull_31 : decode cX3_pull 31 = .ok (.isub, 1) := by decide +kernel
theorem dX3_pull_32 : decode cX3_pull 32 = .ok (.invokestatic 46, 3) := by decide +kernel
theorem dX3_pull_35 : decode cX3_pull 35 = .ok (.ireturn, 1) := by decide +kernel
theorem dX3_grow_0 : decode cX3_grow 0 = .ok (.aload_n 0, 1) := by decide +kernel
theorem dX3_grow_1 : decode cX3_grow 1 = .ok (.getfield 15, 3) := by decide +kernel
theorem dX3_grow_4 : decode cX3_grow 4 = .ok (.iload_n 1, 1) := by decide +kernel
theorem dX3_grow_5 : decode cX3_grow 5 = .ok (.aload_n 0, 1) := by decide +kernel
theorem dX3_grow_6 : decode cX3_grow 6 = .ok (.getfield 9, 3) := by decide +kernel
theorem dX3_grow_9 : decode cX3_grow 9 = .ok (.iload_n 1, 1) := by decide +kernel
theorem dX3_grow_10 : decode cX3_grow 10 = .ok (.iaload, 1) := by decide +kernel
theorem dX3_grow_11 : decode cX3_grow 11 = .ok (.ifCond .le 14, 3) := by decide +kernel
theorem dX3_grow_14 : decode cX3_grow 14 = .ok (.aload_n 0, 1) := by decide +kernel
theorem dX3_grow_15 : decode cX3_grow 15 = .ok (.getfield 15, 3) := by decide +kernel
theorem dX3_grow_18 : decode cX3_grow 18 = .ok (.iload_n 1, 1) := by decide +kernel
theorem dX3_grow_19 : decode cX3_grow 19 = .ok (.iaload, 1) := by decide +kernel
theorem dX3_grow_20 : decode cX3_grow 20 = .ok (.iconst 1, 1) := by decide +kernel
theorem dX3_grow_21 : decode cX3_grow 21 = .ok (.iadd, 1) := by decide +kernel
theorem dX3_grow_22 : decode cX3_grow 22 = .ok (.goto 4, 3) := by decide +kernel
theorem dX3_grow_25 : decode cX3_grow 25 = .ok (.iconst 0, 1) := by decide +kernel
theorem dX3_grow_26 : decode cX3_grow 26 = .ok (.iastore, 1) := by decide +kernel
theorem dX3_grow_27 : decode cX3_grow 27 = .ok (.aload_n 0, 1) := by decide +kernel
theorem dX3_grow_28 : decode cX3_grow 28 = .ok (.getfield 15, 3) := by decide +kernel
theorem dX3_grow_31 : decode cX3_grow 31 = .ok (.iload_n 1, 1) := by decide +kernel
theorem dX3_grow_32 : decode cX3_grow 32 = .ok (.iaload, 1) := by decide +kernel
theorem dX3_grow_33 : decode cX3_grow 33 = .ok (.bipush 12, 2) := by decide +kernel
theorem dX3_grow_35 : decode cX3_grow 35 = .ok (.if_icmp .lt 10, 3) := by decide +kernel
theorem dX3_grow_38 : decode cX3_grow 38 = .ok (.aload_n 0, 1) := by decide +kernel
theorem dX3_grow_39 : decode cX3_grow 39 = .ok (.getfield 21, 3) := by decide +kernel
theorem dX3_grow_42 : decode cX3_grow 42 = .ok (.iload_n 1, 1) := by decide +kernel
theorem dX3_grow_43 : decode cX3_grow 43 = .ok (.iconst 1, 1) := by decide +kernel
theorem dX3_grow_44 : decode cX3_grow 44 = .ok (.bastore, 1) := by decide +kernel
theorem dX3_grow_45 : decode cX3_grow 45 = .ok (.return_, 1) := by decide +kernel
set_option maxRecDepth 20000 in
theorem ggX3_hangs_X7_within : GoodIn wsX3_hangs wsX7_within := goodIn_r _ [6] (by decide +kernel) (by decide +kernel)
set_option maxRecDepth 20000 in
theorem gX3_hangs_X7_within_n76 : GoodIn wsX3_hangs (wsX7_within) := ggX3_hangs_X7_within
theorem dX3_hangs_0 : decode cX3_hangs 0 = .ok (.aload_n 0, 1) := by decide +kernel
theorem dX3_hangs_1 : decode cX3_hangs 1 = .ok (.getfield 18, 3) := by decide +kernel
theorem dX3_hangs_4 : decode cX3_hangs 4 = .ok (.iload_n 1, 1) := by decide +kernel
theorem dX3_hangs_5 : decode cX3_hangs 5 = .ok (.iaload, 1) := by decide +kernel
theorem dX3_hangs_6 : decode cX3_hangs 6 = .ok (.iconst 0, 1) := by decide +kernel
theorem dX3_hangs_7 : decode cX3_hangs 7 = .ok (.aload_n 0, 1) := by decide +kernel
theorem dX3_hangs_8 : decode cX3_hangs 8 = .ok (.getfield 25, 3) := by decide +kernel
theorem dX3_hangs_11 : decode cX3_hangs 11 = .ok (.getfield 73, 3) := by decide +kernel
theorem dX3_hangs_14 : decode cX3_hangs 14 = .ok (.iconst 1, 1) := by decide +kernel
theorem dX3_hangs_15 : decode cX3_hangs 15 = .ok (.isub, 1) := by decide +kernel
theorem dX3_hangs_16 : decode cX3_hangs 16 = .ok (.invokestatic 76, 3) := by decide +kernel
theorem dX3_hangs_19 : decode cX3_hangs 19 = .ok (.ireturn, 1) := by decide +kernel
theorem dX3_pieceAt_0 : decode cX3_pieceAt 0 = .ok (.iconst 0, 1) := by decide +kernel
theorem dX3_pieceAt_1 : decode cX3_pieceAt 1 = .ok (.istore_n 2, 1) := by decide +kernel
theorem dX3_pieceAt_2 : decode cX3_pieceAt 2 = .ok (.iload_n 2, 1) := by decide +kernel
theorem dX3_pieceAt_3 : decode cX3_pieceAt 3 = .ok (.aload_n 0, 1) := by decide +kernel
theorem dX3_pieceAt_4 : decode cX3_pieceAt 4 = .ok (.getfield 25, 3) := by decide +kernel
theorem dX3_pieceAt_7 : decode cX3_pieceAt 7 = .ok (.getfield 36, 3) := by decide +kernel
theorem dX3_pieceAt_10 : decode cX3_pieceAt 10 = .ok (.if_icmp .ge 21, 3) := by decide +kernel
theorem dX3_pieceAt_13 : decode cX3_pieceAt 13 = .ok (.aload_n 0, 1) := by decide +kernel
theorem dX3_pieceAt_14 : decode cX3_pieceAt 14 = .ok (.getfield 18, 3) := by decide +kernel
theorem dX3_pieceAt_17 : decode cX3_pieceAt 17 = .ok (.iload_n 2, 1) := by decide +kernel
theorem dX3_pieceAt_18 : decode cX3_pieceAt 18 = .ok (.iaload, 1) := by decide +kernel
theorem dX3_pieceAt_19 : decode cX3_pieceAt 19 = .ok (.iload_n 1, 1) := by decide +kernel
theorem dX3_pieceAt_20 : decode cX3_pieceAt 20 = .ok (.if_icmp .ne 5, 3) := by decide +kernel
theorem dX3_pieceAt_23 : decode cX3_pieceAt 23 = .ok (.iload_n 2, 1) := by decide +kernel
theorem dX3_pieceAt_24 : decode cX3_pieceAt 24 = .ok (.ireturn, 1) := by decide +kernel
theorem dX3_pieceAt_25 : decode cX3_pieceAt 25 = .ok (.iinc 2 1, 3) := by decide +kernel
theorem dX3_pieceAt_28 : decode cX3_pieceAt 28 = .ok (.goto (-26), 3) := by decide +kernel
theorem dX3_pieceAt_31 : decode cX3_pieceAt 31 = .ok (.bipush (-9), 2) := by decide +kernel
theorem dX3_pieceAt_33 : decode cX3_pieceAt 33 = .ok (.ireturn, 1) := by decide +kernel
theorem dX3_allWater_0 : decode cX3_allWater 0 = .ok (.iconst 0, 1) := by decide +kernel
theorem dX3_allWater_1 : decode cX3_allWater 1 = .ok (.istore_n 1, 1) := by decide +kernel
theorem dX3_allWater_2 : decode cX3_allWater 2 = .ok (.iconst 0, 1) := by decide +kernel
theorem dX3_allWater_3 : decode cX3_allWater 3 = .ok (.istore_n 2, 1) := by decide +kernel
theorem dX3_allWater_4 : decode cX3_allWater 4 = .ok (.iload_n 2, 1) := by decide +kernel
theorem dX3_allWater_5 : decode cX3_allWater 5 = .ok (.aload_n 0, 1) := by decide +kernel
theorem dX3_allWater_6 : decode cX3_allWater 6 = .ok (.getfield 25, 3) := by decide +kernel
theorem dX3_allWater_9 : decode cX3_allWater 9 = .ok (.getfield 36, 3) := by decide +kernel
theorem dX3_allWater_12 : decode cX3_allWater 12 = .ok (.if_icmp .ge 18, 3) := by decide +kernel
theorem dX3_allWater_15 : decode cX3_allWater 15 = .ok (.iload_n 1, 1) := by decide +kernel
theorem dX3_allWater_16 : decode cX3_allWater 16 = .ok (.aload_n 0, 1) := by decide +kernel
theorem dX3_allWater_17 : decode cX3_allWater 17 = .ok (.getfield 9, 3) := by decide +kernel
theorem dX3_allWater_20 : decode cX3_allWater 20 = .ok (.iload_n 2, 1) := by decide +kernel
theorem dX3_allWater_21 : decode cX3_allWater 21 = .ok (.iaload, 1) := by decide +kernel
theorem dX3_allWater_22 : decode cX3_allWater 22 = .ok (.iadd, 1) := by decide +kernel
theorem dX3_allWater_23 : decode cX3_allWater 23 = .ok (.istore_n 1, 1) := by decide +kernel
theorem dX3_allWater_24 : decode cX3_allWater 24 = .ok (.iinc 2 1, 3) := by decide +kernel
theorem dX3_allWater_27 : decode cX3_allWater 27 = .ok (.goto (-23), 3) := by decide +kernel
theorem dX3_allWater_30 : decode cX3_allWater 30 = .ok (.iload_n 1, 1) := by decide +kernel
theorem dX3_allWater_31 : decode cX3_allWater 31 = .ok (.ireturn, 1) := by decide +kernel
set_option maxRecDepth 20000 in
theorem ggX3_onLine_X3_hangs : GoodIn wsX3_onLine wsX3_hangs := goodIn_r _ [7, 8, 1, 9, 10, 11, 12, 13, 14, 15, 16, 17, 18, 19, 20, 21, 22, 23, 24, 25, 26, 27, 28] (by decide +kernel) (by decide +kernel)
set_option maxRecDepth 20000 in
theorem gX3_onLine_X3_hangs : GoodIn wsX3_onLine (wsV RX3 52 RX3 yX3_hangs wsX3_hangs) := goodIn_app (goodIn_of _ (by decide +kernel)) ggX3_onLine_X3_hangs
theorem dX3_onLine_0 : decode cX3_onLine 0 = .ok (.iconst 0, 1) := by decide +kernel
theorem dX3_onLine_1 : decode cX3_onLine 1 = .ok (.istore_n 1, 1) := by decide +kernel
theorem dX3_onLine_2 : decode cX3_onLine 2 = .ok (.iconst 0, 1) := by decide +kernel
theorem dX3_onLine_3 : decode cX3_onLine 3 = .ok (.istore_n 2, 1) := by decide +kernel
theorem dX3_onLine_4 : decode cX3_onLine 4 = .ok (.iload_n 2, 1) := by decide +kernel
theorem dX3_onLine_5 : decode cX3_onLine 5 = .ok (.aload_n 0, 1) := by decide +kernel
theorem dX3_onLine_6 : decode cX3_onLine 6 = .ok (.getfield 25, 3) := by decide +kernel
theorem dX3_onLine_9 : decode cX3_onLine 9 = .ok (.getfield 36, 3) := by decide +kernel
theorem dX3_onLine_12 : decode cX3_onLine 12 = .ok (.if_icmp .ge 25, 3) := by decide +kernel
theorem dX3_onLine_15 : decode cX3_onLine 15 = .ok (.iload_n 1, 1) := by decide +kernel
theorem dX3_onLine_16 : decode cX3_onLine 16 = .ok (.aload_n 0, 1) := by decide +kernel
theorem dX3_onLine_17 : decode cX3_onLine 17 = .ok (.iload_n 2, 1) := by decide +kernel
theorem dX3_onLine_18 : decode cX3_onLine 18 = .ok (.invokevirtual 52, 3) := by decide +kernel
theorem dX3_onLine_21 : decode cX3_onLine 21 = .ok (.ifCond .eq 7, 3) := by decide +kernel
theorem dX3_onLine_24 : decode cX3_onLine 24 = .ok (.iconst 1, 1) := by decide +kernel
theorem dX3_onLine_25 : decode cX3_onLine 25 = .ok (.goto 4, 3) := by decide +kernel
theorem dX3_onLine_28 : decode cX3_onLine 28 = .ok (.iconst 0, 1) := by decide +kernel
theorem dX3_onLine_29 : decode cX3_onLine 29 = .ok (.iadd, 1) := by decide +kernel
theorem dX3_onLine_30 : decode cX3_onLine 30 = .ok (.istore_n 1, 1) := by decide +kernel
theorem dX3_onLine_31 : decode cX3_onLine 31 = .ok (.iinc 2 1, 3) := by decide +kernel
theorem dX3_onLine_34 : decode cX3_onLine 34 = .ok (.goto (-30), 3) := by decide +kernel
theorem dX3_onLine_37 : decode cX3_onLine 37 = .ok (.iload_n 1, 1) := by decide +kernel
theorem dX3_onLine_38 : decode cX3_onLine 38 = .ok (.ireturn, 1) := by decide +kernel
set_option maxRecDepth 20000 in
theorem ggX3_wetOnLine_X3_hangs : GoodIn wsX3_wetOnLine wsX3_hangs := goodIn_r _ [8, 9, 1, 10, 11, 12, 13, 14, 15, 16, 17, 18, 19, 20, 21, 22, 23, 24, 25, 26, 27, 28, 29] (by decide +kernel) (by decide +kernel)
set_option maxRecDepth 20000 in
theorem gX3_wetOnLine_X3_hangs : GoodIn wsX3_wetOnLine (wsV RX3 52 RX3 yX3_hangs wsX3_hangs) := goodIn_app (goodIn_of _ (by decide +kernel)) ggX3_wetOnLine_X3_hangs
theorem dX3_wetOnLine_0 : decode cX3_wetOnLine 0 = .ok (.iconst 0, 1) := by decide +kernel
theorem dX3_wetOnLine_1 : decode cX3_wetOnLine 1 = .ok (.istore_n 1, 1) := by decide +kernel
theorem dX3_wetOnLine_2 : decode cX3_wetOnLine 2 = .ok (.iconst 0, 1) := by decide +kernel
theorem dX3_wetOnLine_3 : decode cX3_wetOnLine 3 = .ok (.istore_n 2, 1) := by decide +kernel
theorem dX3_wetOnLine_4 : decode cX3_wetOnLine 4 = .ok (.iload_n 2, 1) := by decide +kernel
theorem dX3_wetOnLine_5 : decode cX3_wetOnLine 5 = .ok (.aload_n 0, 1) := by decide +kernel
theorem dX3_wetOnLine_6 : decode cX3_wetOnLine 6 = .ok (.getfield 25, 3) := by decide +kernel
theorem dX3_wetOnLine_9 : decode cX3_wetOnLine 9 = .ok (.getfield 36, 3) := by decide +kernel
theorem dX3_wetOnLine_12 : decode cX3_wetOnLine 12 = .ok (.if_icmp .ge 34, 3) := by decide +kernel
theorem dX3_wetOnLine_15 : decode cX3_wetOnLine 15 = .ok (.iload_n 1, 1) := by decide +kernel
theorem dX3_wetOnLine_16 : decode cX3_wetOnLine 16 = .ok (.aload_n 0, 1) := by decide +kernel
theorem dX3_wetOnLine_17 : decode cX3_wetOnLine 17 = .ok (.iload_n 2, 1) := by decide +kernel
theorem dX3_wetOnLine_18 : decode cX3_wetOnLine 18 = .ok (.invokevirtual 52, 3) := by decide +kernel
theorem dX3_wetOnLine_21 : decode cX3_wetOnLine 21 = .ok (.ifCond .eq 16, 3) := by decide +kernel
theorem dX3_wetOnLine_24 : decode cX3_wetOnLine 24 = .ok (.aload_n 0, 1) := by decide +kernel
theorem dX3_wetOnLine_25 : decode cX3_wetOnLine 25 = .ok (.getfield 9, 3) := by decide +kernel
theorem dX3_wetOnLine_28 : decode cX3_wetOnLine 28 = .ok (.iload_n 2, 1) := by decide +kernel
theorem dX3_wetOnLine_29 : decode cX3_wetOnLine 29 = .ok (.iaload, 1) := by decide +kernel
theorem dX3_wetOnLine_30 : decode cX3_wetOnLine 30 = .ok (.ifCond .le 7, 3) := by decide +kernel
theorem dX3_wetOnLine_33 : decode cX3_wetOnLine 33 = .ok (.iconst 1, 1) := by decide +kernel
theorem dX3_wetOnLine_34 : decode cX3_wetOnLine 34 = .ok (.goto 4, 3) := by decide +kernel
theorem dX3_wetOnLine_37 : decode cX3_wetOnLine 37 = .ok (.iconst 0, 1) := by decide +kernel
theorem dX3_wetOnLine_38 : decode cX3_wetOnLine 38 = .ok (.iadd, 1) := by decide +kernel
theorem dX3_wetOnLine_39 : decode cX3_wetOnLine 39 = .ok (.istore_n 1, 1) := by decide +kernel
theorem dX3_wetOnLine_40 : decode cX3_wetOnLine 40 = .ok (.iinc 2 1, 3) := by decide +kernel
theorem dX3_wetOnLine_43 : decode cX3_wetOnLine 43 = .ok (.goto (-39), 3) := by decide +kernel
theorem dX3_wetOnLine_46 : decode cX3_wetOnLine 46 = .ok (.iload_n 1, 1) := by decide +kernel
theorem dX3_wetOnLine_47 : decode cX3_wetOnLine 47 = .ok (.ireturn, 1) := by decide +kernel
theorem dX3_onRack_0 : decode cX3_onRack 0 = .ok (.iconst 0, 1) := by decide +kernel
theorem dX3_onRack_1 : decode cX3_onRack 1 = .ok (.istore_n 1, 1) := by decide +kernel
theorem dX3_onRack_2 : decode cX3_onRack 2 = .ok (.iconst 0, 1) := by decide +kernel
theorem dX3_onRack_3 : decode cX3_onRack 3 = .ok (.istore_n 2, 1) := by decide +kernel
theorem dX3_onRack_4 : decode cX3_onRack 4 = .ok (.iload_n 2, 1) := by decide +kernel
theorem dX3_onRack_5 : decode cX3_onRack 5 = .ok (.aload_n 0, 1) := by decide +kernel
theorem dX3_onRack_6 : decode cX3_onRack 6 = .ok (.getfield 25, 3) := by decide +kernel
theorem dX3_onRack_9 : decode cX3_onRack 9 = .ok (.getfield 36, 3) := by decide +kernel
theorem dX3_onRack_12 : decode cX3_onRack 12 = .ok (.if_icmp .ge 28, 3) := by decide +kernel
theorem dX3_onRack_15 : decode cX3_onRack 15 = .ok (.iload_n 1, 1) := by decide +kernel
theorem dX3_onRack_16 : decode cX3_onRack 16 = .ok (.aload_n 0, 1) := by decide +kernel
theorem dX3_onRack_17 : decode cX3_onRack 17 = .ok (.getfield 18, 3) := by decide +kernel
theorem dX3_onRack_20 : decode cX3_onRack 20 = .ok (.iload_n 2, 1) := by decide +kernel
theorem dX3_onRack_21 : decode cX3_onRack 21 = .ok (.iaload, 1) := by decide +kernel
theorem dX3_onRack_22 : decode cX3_onRack 22 = .ok (.bipush 8, 2) := by decide +kernel
theorem dX3_onRack_24 : decode cX3_onRack 24 = .ok (.if_icmp .ne 7, 3) := by decide +kernel
theorem dX3_onRack_27 : decode cX3_onRack 27 = .ok (.iconst 1, 1) := by decide +kernel
theorem dX3_onRack_28 : decode cX3_onRack 28 = .ok (.goto 4, 3) := by decide +kernel
theorem dX3_onRack_31 : decode cX3_onRack 31 = .ok (.iconst 0, 1) := by decide +kernel
theorem dX3_onRack_32 : decode cX3_onRack 32 = .ok (.iadd, 1) := by decide +kernel
theorem dX3_onRack_33 : decode cX3_onRack 33 = .ok (.istore_n 1, 1) := by decide +kernel
theorem dX3_onRack_34 : decode cX3_onRack 34 = .ok (.iinc 2 1, 3) := by decide +kernel
theorem dX3_onRack_37 : decode cX3_onRack 37 = .ok (.goto (-33), 3) := by decide +kernel
theorem dX3_onRack_40 : decode cX3_onRack 40 = .ok (.iload_n 1, 1) := by decide +kernel
theorem dX3_onRack_41 : decode cX3_onRack 41 = .ok (.ireturn, 1) := by decide +kernel
theorem dX3_howManyDry_0 : decode cX3_howManyDry 0 = .ok (.iconst 0, 1) := by decide +kernel
theorem dX3_howManyDry_1 : decode cX3_howManyDry 1 = .ok (.istore_n 1, 1) := by decide +kernel
theorem dX3_howManyDry_2 : decode cX3_howManyDry 2 = .ok (.iconst 0, 1) := by decide +kernel
theorem dX3_howManyDry_3 : decode cX3_howManyDry 3 = .ok (.istore_n 2, 1) := by decide +kernel
theorem dX3_howManyDry_4 : decode cX3_howManyDry 4 = .ok (.iload_n 2, 1) := by decide +kernel
theorem dX3_howManyDry_5 : decode cX3_howManyDry 5 = .ok (.aload_n 0, 1) := by decide +kernel
theorem dX3_howManyDry_6 : decode cX3_howManyDry 6 = .ok (.getfield 25, 3) := by decide +kernel
theorem dX3_howManyDry_9 : decode cX3_howManyDry 9 = .ok (.getfield 36, 3) := by decide +kernel
theorem dX3_howManyDry_12 : decode cX3_howManyDry 12 = .ok (.if_icmp .ge 26, 3) := by decide +kernel
theorem dX3_howManyDry_15 : decode cX3_howManyDry 15 = .ok (.iload_n 1, 1) := by decide +kernel
theorem dX3_howManyDry_16 : decode cX3_howManyDry 16 = .ok (.aload_n 0, 1) := by decide +kernel
theorem dX3_howManyDry_17 : decode cX3_howManyDry 17 = .ok (.getfield 9, 3) := by decide +kernel
theorem dX3_howManyDry_20 : decode cX3_howManyDry 20 = .ok (.iload_n 2, 1) := by decide +kernel
theorem dX3_howManyDry_21 : decode cX3_howManyDry 21 = .ok (.iaload, 1) := by decide +kernel
theorem dX3_howManyDry_22 : decode cX3_howManyDry 22 = .ok (.ifCond .ne 7, 3) := by decide +kernel
theorem dX3_howManyDry_25 : decode cX3_howManyDry 25 = .ok (.iconst 1, 1) := by decide +kernel
theorem dX3_howManyDry_26 : decode cX3_howManyDry 26 = .ok (.goto 4, 3) := by decide +kernel
theorem dX3_howManyDry_29 : decode cX3_howManyDry 29 = .ok (.iconst 0, 1) := by decide +kernel
theorem dX3_howManyDry_30 : decode cX3_howManyDry 30 = .ok (.iadd, 1) := by decide +kernel
theorem dX3_howManyDry_31 : decode cX3_howManyDry 31 = .ok (.istore_n 1, 1) := by decide +kernel
theorem dX3_howManyDry_32 : decode cX3_howManyDry 32 = .ok (.iinc 2 1, 3) := by decide +kernel
theorem dX3_howManyDry_35 : decode cX3_howManyDry 35 = .ok (.goto (-31), 3) := by decide +kernel
theorem dX3_howManyDry_38 : decode cX3_howManyDry 38 = .ok (.iload_n 1, 1) := by decide +kernel
theorem dX3_howManyDry_39 : decode cX3_howManyDry 39 = .ok (.ireturn, 1) := by decide +kernel
theorem dX3_howManySmell_0 : decode cX3_howManySmell 0 = .ok (.iconst 0, 1) := by decide +kernel
theorem dX3_howManySmell_1 : decode cX3_howManySmell 1 = .ok (.istore_n 1, 1) := by decide +kernel
theorem dX3_howManySmell_2 : decode cX3_howManySmell 2 = .ok (.iconst 0, 1) := by decide +kernel
theorem dX3_howManySmell_3 : decode cX3_howManySmell 3 = .ok (.istore_n 2, 1) := by decide +kernel
theorem dX3_howManySmell_4 : decode cX3_howManySmell 4 = .ok (.iload_n 2, 1) := by decide +kernel
theorem dX3_howManySmell_5 : decode cX3_howManySmell 5 = .ok (.aload_n 0, 1) := by decide +kernel
theorem dX3_howManySmell_6 : decode cX3_howManySmell 6 = .ok (.getfield 25, 3) := by decide +kernel
theorem dX3_howManySmell_9 : decode cX3_howManySmell 9 = .ok (.getfield 36, 3) := by decide +kernel
theorem dX3_howManySmell_12 : decode cX3_howManySmell 12 = .ok (.if_icmp .ge 26, 3) := by decide +kernel
theorem dX3_howManySmell_15 : decode cX3_howManySmell 15 = .ok (.iload_n 1, 1) := by decide +kernel
theorem dX3_howManySmell_16 : decode cX3_howManySmell 16 = .ok (.aload_n 0, 1) := by decide +kernel
theorem dX3_howManySmell_17 : decode cX3_howManySmell 17 = .ok (.getfield 21, 3) := by decide +kernel
theorem dX3_howManySmell_20 : decode cX3_howManySmell 20 = .ok (.iload_n 2, 1) := by decide +kernel
theorem dX3_howManySmell_21 : decode cX3_howManySmell 21 = .ok (.baload, 1) := by decide +kernel
theorem dX3_howManySmell_22 : decode cX3_howManySmell 22 = .ok (.ifCond .eq 7, 3) := by decide +kernel
theorem dX3_howManySmell_25 : decode cX3_howManySmell 25 = .ok (.iconst 1, 1) := by decide +kernel
theorem dX3_howManySmell_26 : decode cX3_howManySmell 26 = .ok (.goto 4, 3) := by decide +kernel
theorem dX3_howManySmell_29 : decode cX3_howManySmell 29 = .ok (.iconst 0, 1) := by decide +kernel
theorem dX3_howManySmell_30 : decode cX3_howManySmell 30 = .ok (.iadd, 1) := by decide +kernel
theorem dX3_howManySmell_31 : decode cX3_howManySmell 31 = .ok (.istore_n 1, 1) := by decide +kernel
theorem dX3_howManySmell_32 : decode cX3_howManySmell 32 = .ok (.iinc 2 1, 3) := by decide +kernel
theorem dX3_howManySmell_35 : decode cX3_howManySmell 35 = .ok (.goto (-31), 3) := by decide +kernel
theorem dX3_howManySmell_38 : decode cX3_howManySmell 38 = .ok (.iload_n 1, 1) := by decide +kernel
theorem dX3_howManySmell_39 : decode cX3_howManySmell 39 = .ok (.ireturn, 1) := by decide +kernel
set_option maxRecDepth 20000 in
theorem ggX4_init_X6_init : GoodIn wsX4_init wsX6_init := goodIn_r _ [11, 12, 2, 3, 13, 14, 15, 16, 17, 18, 19, 28, 29, 30, 31, 32, 33, 34, 35, 36] (by decide +kernel) (by decide +kernel)
set_option maxRecDepth 20000 in
theorem gX4_init_X6_init_n17 : GoodIn wsX4_init (wsX6_init) := ggX4_init_X6_init
theorem dX4_init_0 : decode cX4_init 0 = .ok (.aload_n 0, 1) := by decide +kernel
theorem dX4_init_1 : decode cX4_init 1 = .ok (.invokespecial 3, 3) := by decide +kernel
theorem dX4_init_4 : decode cX4_init 4 = .ok (.aload_n 0, 1) := by decide +kernel
theorem dX4_init_5 : decode cX4_init 5 = .ok (.sipush 300, 3) := by decide +kernel
theorem dX4_init_8 : decode cX4_init 8 = .ok (.newarray .byte, 2) := by decide +kernel
theorem dX4_init_10 : decode cX4_init 10 = .ok (.putfield 9, 3) := by decide +kernel
theorem dX4_init_13 : decode cX4_init 13 = .ok (.aload_n 0, 1) := by decide +kernel
theorem dX4_init_14 : decode cX4_init 14 = .ok (.new 15, 3) := by decide +kernel
theorem dX4_init_17 : decode cX4_init 17 = .ok (.dup, 1) := by decide +kernel
theorem dX4_init_18 : decode cX4_init 18 = .ok (.invokespecial 17, 3) := by decide +kernel
theorem dX4_init_21 : decode cX4_init 21 = .ok (.putfield 18, 3) := by decide +kernel
theorem dX4_init_24 : decode cX4_init 24 = .ok (.return_, 1) := by decide +kernel
theorem dX4_take_0 : decode cX4_take 0 = .ok (.iload_n 3, 1) := by decide +kernel
theorem dX4_take_1 : decode cX4_take 1 = .ok (.sipush 300, 3) := by decide +kernel
theorem dX4_take_4 : decode cX4_take 4 = .ok (.aload_n 0, 1) := by decide +kernel
theorem dX4_take_5 : decode cX4_take 5 = .ok (.getfield 22, 3) := by decide +kernel
theorem dX4_take_8 : decode cX4_take 8 = .ok (.isub, 1) := by decide +kernel
theorem dX4_take_9 : decode cX4_take 9 = .ok (.if_icmp .le 5, 3) := by decide +kernel
theorem dX4_take_12 : decode cX4_take 12 = .ok (.iconst 0, 1) := by decide +kernel
theorem dX4_take_13 : decode cX4_take 13 = .ok (.ireturn, 1) := by decide +kernel
theorem dX4_take_14 : decode cX4_take 14 = .ok (.iload_n 3, 1) := by decide +kernel
theorem dX4_take_15 : decode cX4_take 15 = .ok (.iconst 1, 1) := by decide +kernel
theorem dX4_take_16 : decode cX4_take 16 = .ok (.isub, 1) := by decide +kernel
theorem dX4_take_17 : decode cX4_take 17 = .ok (.istore 4, 2) := by decide +kernel
theorem dX4_take_19 : decode cX4_take 19 = .ok (.iload 4, 2) := by decide +kernel
theorem dX4_take_21 : decode cX4_take 21 = .ok (.ifCond .lt 37, 3) := by decide +kernel
theorem dX4_take_24 : decode cX4_take 24 = .ok (.aload_n 0, 1) := by decide +kernel
theorem dX4_take_25 : decode cX4_take 25 = .ok (.getfield 9, 3) := by decide +kernel
theorem dX4_take_28 : decode cX4_take 28 = .ok (.aload_n 0, 1) := by decide +kernel
theorem dX4_take_29 : decode cX4_take 29 = .ok (.getfield 22, 3) := by decide +kernel
theorem dX4_take_32 : decode cX4_take 32 = .ok (.lload_n 1, 1) := by decide +kernel
theorem dX4_take_33 : decode cX4_take 33 = .ok (.bipush 8, 2) := by decide +kernel
theorem dX4_take_35 : decode cX4_take 35 = .ok (.iload 4, 2) := by decide +kernel
theorem dX4_take_37 : decode cX4_take 37 = .ok (.imul, 1) := by decide +kernel
theorem dX4_take_38 : decode cX4_take 38 = .ok (.lushr, 1) := by decide +kernel
theorem dX4_take_39 : decode cX4_take 39 = .ok (.l2i, 1) := by decide +kernel
theorem dX4_take_40 : decode cX4_take 40 = .ok (.i2b, 1) := by decide +kernel
theorem dX4_take_41 : decode cX4_take 41 = .ok (.bastore, 1) := by decide +kernel
theorem dX4_take_42 : decode cX4_take 42 = .ok (.aload_n 0, 1) := by decide +kernel
theorem dX4_take_43 : decode cX4_take 43 = .ok (.dup, 1) := by decide +kernel
theorem dX4_take_44 : decode cX4_take 44 = .ok (.getfield 22, 3) := by decide +kernel
theorem dX4_take_47 : decode cX4_take 47 = .ok (.iconst 1, 1) := by decide +kernel
theorem dX4_take_48 : decode cX4_take 48 = .ok (.iadd, 1) := by decide +kernel
theorem dX4_take_49 : decode cX4_take 49 = .ok (.putfield 22, 3) := by decide +kernel
theorem dX4_take_52 : decode cX4_take 52 = .ok (.iinc 4 (-1), 3) := by decide +kernel
theorem dX4_take_55 : decode cX4_take 55 = .ok (.goto (-36), 3) := by decide +kernel
theorem dX4_take_58 : decode cX4_take 58 = .ok (.iconst 1, 1) := by decide +kernel
theorem dX4_take_59 : decode cX4_take 59 = .ok (.ireturn, 1) := by decide +kernel
theorem dX4_empty_0 : decode cX4_empty 0 = .ok (.aload_n 0, 1) := by decide +kernel
theorem dX4_empty_1 : decode cX4_empty 1 = .ok (.getfield 22, 3) := by decide +kernel
theorem dX4_empty_4 : decode cX4_empty 4 = .ok (.istore_n 1, 1) := by decide +kernel
theorem dX4_empty_5 : decode cX4_empty 5 = .ok (.aload_n 0, 1) := by decide +kernel
theorem dX4_empty_6 : decode cX4_empty 6 = .ok (.iconst 0, 1) := by decide +kernel
theorem dX4_empty_7 : decode cX4_empty 7 = .ok (.putfield 22, 3) := by decide +kernel
theorem dX4_empty_10 : decode cX4_empty 10 = .ok (.iload_n 1, 1) := by decide +kernel
theorem dX4_empty_11 : decode cX4_empty 11 = .ok (.ireturn, 1) := by decide +kernel
set_option maxRecDepth 20000 in
theorem ggX4_readAll_X6_forget : GoodIn wsX4_readAll wsX6_forget := goodIn_r _ [9, 10, 11, 12, 137, 138, 139, 140, 141, 142, 143, 144, 145] (by decide +kernel) (by decide +kernel)
set_option maxRecDepth 20000 in
theorem gX4_readAll_X6_forget : GoodIn wsX4_readAll (wsV RX4 26 RX6 yX6_forget wsX6_forget) := goodIn_app (goodIn_of _ (by decide +kernel)) ggX4_readAll_X6_forget
set_option maxRecDepth 20000 in
theorem ggX4_readAll_X4_scan : GoodIn wsX4_readAll wsX4_scan := goodIn_r _ [17, 2, 18, 19, 20, 4, 21, 22, 16, 23, 24, 25, 26, 27, 28, 29, 30, 31, 32, 33, 34, 35, 36, 37, 38, 39, 129, 130, 131, 132, 133, 134, 135, 136] (by decide +kernel) (by decide +kernel)
set_option maxRecDepth 20000 in
theorem gX4_readAll_X4_scan : GoodIn wsX4_readAll (wsV RX4 35 RX4 yX4_scan wsX4_scan) := goodIn_app (goodIn_of _ (by decide +kernel)) ggX4_readAll_X4_scan
set_option maxRecDepth 20000 in
theorem ggX4_readAll_X4_readItem : GoodIn wsX4_readAll wsX4_readItem := goodIn_r _ [43, 1, 44, 45, 20, 3, 46, 47, 48, 16, 49, 4, 2, 19, 50, 51, 52, 53, 54, 55, 56, 57, 58, 59, 60, 61, 62, 63, 64, 65, 66, 67, 68, 69, 70, 71, 72, 73, 74, 75, 76, 77, 78, 79, 80, 81, 82, 83, 84, 85, 86, 87, 88, 89, 90, 91, 92, 93, 94, 95, 96, 97, 98, 99, 100, 101, 102, 103, 104, 105, 106, 107, 108, 109, 35, 13, 14, 15, 17, 18, 21, 22, 23, 24, 25, 26, 27, 28, 29, 30, 31, 32, 33, 34, 36, 37, 38, 39, 110, 111, 112, 113, 114, 115, 116, 117, 118, 119, 120, 121, 122, 123, 124, 125, 126, 127, 128, 129, 130, 131, 132, 133, 134, 135, 136, 137, 138, 139, 140, 141, 142, 143, 144, 145] (by decide +kernel) (by decide +kernel)
set_option maxRecDepth 20000 in
theorem gX4_readAll_X4_readItem : GoodIn wsX4_readAll (wsV RX4 41 RX4 yX4_readItem wsX4_readItem) := goodIn_app (goodIn_of _ (by decide +kernel)) ggX4_readAll_X4_readItem
theorem dX4_readAll_0 : decode cX4_readAll 0 = .ok (.aload_n 0, 1) := by decide +kernel
theorem dX4_readAll_1 : decode cX4_readAll 1 = .ok (.getfield 18, 3) := by decide +kernel
theorem dX4_readAll_4 : decode cX4_readAll 4 = .ok (.invokevirtual 26, 3) := by decide +kernel
theorem dX4_readAll_7 : decode cX4_readAll 7 = .ok (.aload_n 0, 1) := by decide +kernel
theorem dX4_readAll_8 : decode cX4_readAll 8 = .ok (.iconst 0, 1) := by decide +kernel
theorem dX4_readAll_9 : decode cX4_readAll 9 = .ok (.putfield 29, 3) := by decide +kernel
theorem dX4_readAll_12 : decode cX4_readAll 12 = .ok (.aload_n 0, 1) := by decide +kernel
theorem dX4_readAll_13 : decode cX4_readAll 13 = .ok (.iconst (-1), 1) := by decide +kernel
theorem dX4_readAll_14 : decode cX4_readAll 14 = .ok (.putfield 32, 3) := by decide +kernel
theorem dX4_readAll_17 : decode cX4_readAll 17 = .ok (.iconst 0, 1) := by decide +kernel
theorem dX4_readAll_18 : decode cX4_readAll 18 = .ok (.istore_n 1, 1) := by decide +kernel
theorem dX4_readAll_19 : decode cX4_readAll 19 = .ok (.aload_n 0, 1) := by decide +kernel
theorem dX4_readAll_20 : decode cX4_readAll 20 = .ok (.invokevirtual 35, 3) := by decide +kernel
theorem dX4_readAll_23 : decode cX4_readAll 23 = .ok (.aload_n 0, 1) := by decide +kernel
theorem dX4_readAll_24 : decode cX4_readAll 24 = .ok (.getfield 38, 3) := by decide +kernel
theorem dX4_readAll_27 : decode cX4_readAll 27 = .ok (.ifCond .eq 32, 3) := by decide +kernel
theorem dX4_readAll_30 : decode cX4_readAll 30 = .ok (.aload_n 0, 1) := by decide +kernel
theorem dX4_readAll_31 : decode cX4_readAll 31 = .ok (.getfield 32, 3) := by decide +kernel
theorem dX4_readAll_34 : decode cX4_readAll 34 = .ok (.iconst (-1), 1) := by decide +kernel
theorem dX4_readAll_35 : decode cX4_readAll 35 = .ok (.if_icmp .ne 24, 3) := by decide +kernel
theorem dX4_readAll_38 : decode cX4_readAll 38 = .ok (.iload_n 1, 1) := by decide +kernel
theorem dX4_readAll_39 : decode cX4_readAll 39 = .ok (.sipush 300, 3) := by decide +kernel
theorem dX4_readAll_42 : decode cX4_readAll 42 = .ok (.if_icmp .ge 17, 3) := by decide +kernel
theorem dX4_readAll_45 : decode cX4_readAll 45 = .ok (.aload_n 0, 1) := by decide +kernel
theorem dX4_readAll_46 : decode cX4_readAll 46 = .ok (.invokevirtual 41, 3) := by decide +kernel
theorem dX4_readAll_49 : decode cX4_readAll 49 = .ok (.iinc 1 1, 3) := by decide +kernel
theorem dX4_readAll_52 : decode cX4_readAll 52 = .ok (.aload_n 0, 1) := by decide +kernel
theorem dX4_readAll_53 : decode cX4_readAll 53 = .ok (.invokevirtual 35, 3) := by decide +kernel
theorem dX4_readAll_56 : decode cX4_readAll 56 = .ok (.goto (-33), 3) := by decide +kernel
theorem dX4_readAll_59 : decode cX4_readAll 59 = .ok (.aload_n 0, 1) := by decide +kernel
theorem dX4_readAll_60 : decode cX4_readAll 60 = .ok (.getfield 32, 3) := by decide +kernel
theorem dX4_readAll_63 : decode cX4_readAll 63 = .ok (.iconst (-1), 1) := by decide +kernel
theorem dX4_readAll_64 : decode cX4_readAll 64 = .ok (.if_icmp .ne 7, 3) := by decide +kernel
theorem dX4_readAll_67 : decode cX4_readAll 67 = .ok (.iload_n 1, 1) := by decide +kernel
theorem dX4_readAll_68 : decode cX4_readAll 68 = .ok (.goto 10, 3) := by decide +kernel
theorem dX4_readAll_71 : decode cX4_readAll 71 = .ok (.bipush (-10), 2) := by decide +kernel
theorem dX4_readAll_73 : decode cX4_readAll 73 = .ok (.aload_n 0, 1) := by decide +kernel
theorem dX4_readAll_74 : decode cX4_readAll 74 = .ok (.getfield 32, 3) := by decide +kernel
theorem dX4_readAll_77 : decode cX4_readAll 77 = .ok (.isub, 1) := by decide +kernel
theorem dX4_readAll_78 : decode cX4_readAll 78 = .ok (.ireturn, 1) := by decide +kernel
set_option maxRecDepth 20000 in
theorem ggX4_readItem_X4_isWord : GoodIn wsX4_readItem wsX4_isWord := goodIn_r _ [10, 11, 12, 4, 13, 14, 15, 16, 17, 18, 19, 20, 21, 22, 23, 24, 25, 26, 27, 28, 29, 30, 31, 32, 33, 34, 35, 36, 37, 38, 39, 40, 41, 42, 43, 44, 45, 46, 47, 48, 49, 50, 51, 52, 53, 54, 55, 56, 57, 58, 59, 60, 61, 62, 117, 118, 119, 120, 121, 122, 123, 124] (by decide +kernel) (by decide +kernel)
set_option maxRecDepth 20000 in
theorem gX4_readItem_X4_isWord : GoodIn wsX4_readItem (wsV RX4 46 RX4 yX4_isWord wsX4_isWord) := goodIn_app (goodIn_of _ (by decide +kernel)) ggX4_readItem_X4_isWord
set_option maxRecDepth 20000 in
theorem ggX4_readItem_X4_readPiece : GoodIn wsX4_readItem wsX4_readPiece := goodIn_r _ [66, 1, 2, 67, 68, 69, 70, 71, 72, 9, 73, 5, 11, 74, 4, 75, 76, 77, 78, 12, 79, 13, 80, 81, 82, 83, 84, 85, 86, 87, 88, 89, 90, 91, 92, 93, 94, 95, 96, 97, 98, 99, 100, 117, 118, 119, 120, 121, 122, 123, 124, 125, 126, 127, 128, 129, 130, 131, 132, 133] (by decide +kernel) (by decide +kernel)
set_option maxRecDepth 20000 in
theorem gX4_readItem_X4_readPiece : GoodIn wsX4_readItem (wsV RX4 53 RX4 yX4_readPiece wsX4_readPiece) := goodIn_app (goodIn_of _ (by decide +kernel)) ggX4_readItem_X4_readPiece
set_option maxRecDepth 20000 in
theorem ggX4_readItem_X4_readSpot : GoodIn wsX4_readItem wsX4_readSpot := goodIn_r _ [104, 1, 3, 105, 106, 70, 71, 72, 9, 73, 5, 11, 74, 4, 75, 76, 77, 78, 12, 79, 13, 80, 81, 82, 83, 84, 85, 86, 87, 88, 89, 90, 91, 92, 93, 94, 95, 96, 97, 98, 99, 100, 117, 118, 119, 120, 121, 122, 123, 124, 125, 126, 127, 128, 129, 130, 131, 132, 133] (by decide +kernel) (by decide +kernel)
set_option maxRecDepth 20000 in
theorem gX4_readItem_X4_readSpot : GoodIn wsX4_readItem (wsV RX4 61 RX4 yX4_readSpot wsX4_readSpot) := goodIn_app (goodIn_of _ (by decide +kernel)) ggX4_readItem_X4_readSpot
set_option maxRecDepth 20000 in
theorem ggX4_readItem_X4_readSteps : GoodIn wsX4_readItem wsX4_readSteps := goodIn_r _ [110, 1, 111, 112, 70, 71, 72, 9, 73, 5, 11, 74, 4, 75, 76, 77, 78, 12, 79, 13, 80, 81, 82, 83, 84, 85, 86, 87, 88, 89, 90, 91, 92, 93, 94, 95, 96, 97, 98, 99, 100, 117, 118, 119, 120, 121, 122, 123, 124, 125, 126, 127, 128, 129, 130, 131, 132, 133] (by decide +kernel) (by decide +kernel)
set_option maxRecDepth 20000 in
theorem gX4_readItem_X4_readSteps : GoodIn wsX4_readItem (wsV RX4 66 RX4 yX4_readSteps wsX4_readSteps) := goodIn_app (goodIn_of _ (by decide +kernel)) ggX4_readItem_X4_readSteps
set_option maxRecDepth 20000 in
theorem ggX4_readItem_X4_readSemicolon : GoodIn wsX4_readItem wsX4_readSemicolon := goodIn_r _ [116, 5, 11, 4, 75, 76, 77, 9, 78, 12, 79, 13, 80, 81, 82, 83, 84, 85, 86, 87, 88, 89, 90, 91, 92, 93, 74, 94, 95, 96, 97, 117, 118, 119, 120, 121, 122, 123, 124] (by decide +kernel) (by decide +kernel)
set_option maxRecDepth 20000 in
theorem gX4_readItem_X4_readSemicolon : GoodIn wsX4_readItem (wsV RX4 75 RX4 yX4_readSemicolon wsX4_readSemicolon) := goodIn_app (goodIn_of _ (by decide +kernel)) ggX4_readItem_X4_readSemicolon
theorem dX4_readItem_0 : decode cX4_readItem 0 = .ok (.aload_n 0, 1) := by decide +kernel
theorem dX4_readItem_1 : decode cX4_readItem 1 = .ok (.ldc 44, 2) := by decide +kernel
theorem dX4_readItem_3 : decode cX4_readItem 3 = .ok (.invokevirtual 46, 3) := by decide +kernel
theorem dX4_readItem_6 : decode cX4_readItem 6 = .ok (.ifCond .eq 22, 3) := by decide +kernel
theorem dX4_readItem_9 : decode cX4_readItem 9 = .ok (.aload_n 0, 1) := by decide +kernel
theorem dX4_readItem_10 : decode cX4_readItem 10 = .ok (.getfield 18, 3) := by decide +kernel
theorem dX4_readItem_13 : decode cX4_readItem 13 = .ok (.getfield 50, 3) := by decide +kernel
theorem dX4_readItem_16 : decode cX4_readItem 16 = .ok (.bipush 6, 2) := by decide +kernel
theorem dX4_readItem_18 : decode cX4_readItem 18 = .ok (.if_icmp .ge 10, 3) := by decide +kernel
theorem dX4_readItem_21 : decode cX4_readItem 21 = .ok (.aload_n 0, 1) := by decide +kernel
theorem dX4_readItem_22 : decode cX4_readItem 22 = .ok (.invokevirtual 53, 3) := by decide +kernel
theorem dX4_readItem_25 : decode cX4_readItem 25 = .ok (.goto 74, 3) := by decide +kernel
theorem dX4_readItem_28 : decode cX4_readItem 28 = .ok (.aload_n 0, 1) := by decide +kernel
theorem dX4_readItem_29 : decode cX4_readItem 29 = .ok (.ldc 56, 2) := by decide +kernel
theorem dX4_readItem_31 : decode cX4_readItem 31 = .ok (.invokevirtual 46, 3) := by decide +kernel
theorem dX4_readItem_34 : decode cX4_readItem 34 = .ok (.ifCond .eq 21, 3) := by decide +kernel
theorem dX4_readItem_37 : decode cX4_readItem 37 = .ok (.aload_n 0, 1) := by decide +kernel
theorem dX4_readItem_38 : decode cX4_readItem 38 = .ok (.getfield 18, 3) := by decide +kernel
theorem dX4_readItem_41 : decode cX4_readItem 41 = .ok (.getfield 58, 3) := by decide +kernel
theorem dX4_readItem_44 : decode cX4_readItem 44 = .ok (.iconst 5, 1) := by decide +kernel
theorem dX4_readItem_45 : decode cX4_readItem 45 = .ok (.if_icmp .ge 10, 3) := by decide +kernel
theorem dX4_readItem_48 : decode cX4_readItem 48 = .ok (.aload_n 0, 1) := by decide +kernel
theorem dX4_readItem_49 : decode cX4_readItem 49 = .ok (.invokevirtual 61, 3) := by decide +kernel
theorem dX4_readItem_52 : decode cX4_readItem 52 = .ok (.goto 47, 3) := by decide +kernel
theorem dX4_readItem_55 : decode cX4_readItem 55 = .ok (.aload_n 0, 1) := by decide +kernel
theorem dX4_readItem_56 : decode cX4_readItem 56 = .ok (.ldc 64, 2) := by decide +kernel
theorem dX4_readItem_58 : decode cX4_readItem 58 = .ok (.invokevirtual 46, 3) := by decide +kernel
theorem dX4_readItem_61 : decode cX4_readItem 61 = .ok (.ifCond .eq 12, 3) := by decide +kernel
theorem dX4_readItem_64 : decode cX4_readItem 64 = .ok (.aload_n 0, 1) := by decide +kernel
theorem dX4_readItem_65 : decode cX4_readItem 65 = .ok (.iconst 0, 1) := by decide +kernel
theorem dX4_readItem_66 : decode cX4_readItem 66 = .ok (.iconst 1, 1) := by decide +kernel
theorem dX4_readItem_67 : decode cX4_readItem 67 = .ok (.invokevirtual 66, 3) := by decide +kernel
theorem dX4_readItem_70 : decode cX4_readItem 70 = .ok (.goto 29, 3) := by decide +kernel
theorem dX4_readItem_73 : decode cX4_readItem 73 = .ok (.aload_n 0, 1) := by decide +kernel
theorem dX4_readItem_74 : decode cX4_readItem 74 = .ok (.ldc 70, 2) := by decide +kernel
theorem dX4_readItem_76 : decode cX4_readItem 76 = .ok (.invokevirtual 46, 3) := by decide +kernel
theorem dX4_readItem_79 : decode cX4_readItem 79 = .ok (.ifCond .eq 12, 3) := by decide +kernel
theorem dX4_readItem_82 : decode cX4_readItem 82 = .ok (.aload_n 0, 1) := by decide +kernel
theorem dX4_readItem_83 : decode cX4_readItem 83 = .ok (.iconst 1, 1) := by decide +kernel
theorem dX4_readItem_84 : decode cX4_readItem 84 = .ok (.iconst (-1), 1) := by decide +kernel
theorem dX4_readItem_85 : decode cX4_readItem 85 = .ok (.invokevirtual 66, 3) := by decide +kernel
theorem dX4_readItem_88 : decode cX4_readItem 88 = .ok (.goto 11, 3) := by decide +kernel
theorem dX4_readItem_91 : decode cX4_readItem 91 = .ok (.aload_n 0, 1) := by decide +kernel
theorem dX4_readItem_92 : decode cX4_readItem 92 = .ok (.aload_n 0, 1) := by decide +kernel
theorem dX4_readItem_93 : decode cX4_readItem 93 = .ok (.getfield 72, 3) := by decide +kernel
theorem dX4_readItem_96 : decode cX4_readItem 96 = .ok (.putfield 32, 3) := by decide +kernel
theorem dX4_readItem_99 : decode cX4_readItem 99 = .ok (.aload_n 0, 1) := by decide +kernel
theorem dX4_readItem_100 : decode cX4_readItem 100 = .ok (.invokevirtual 75, 3) := by decide +kernel
theorem dX4_readItem_103 : decode cX4_readItem 103 = .ok (.return_, 1) := by decide +kernel
set_option maxRecDepth 20000 in
theorem ggX4_readPiece_X4_readNumber : GoodIn wsX4_readPiece wsX4_readNumber := goodIn_r _ [10, 11, 12, 13, 14, 15, 16, 17, 9, 18, 19, 20, 21, 22, 23, 24, 25, 26, 27, 28, 29, 30, 31, 32, 33, 34, 35, 36, 37, 38, 39, 40, 41, 42, 43, 44, 45, 46, 47, 48, 49, 50] (by decide +kernel) (by decide +kernel)
set_option maxRecDepth 20000 in
theorem gX4_readPiece_X4_readNumber : GoodIn wsX4_readPiece (wsV RX4 82 RX4 yX4_readNumber wsX4_readNumber) := goodIn_app (goodIn_of _ (by decide +kernel)) ggX4_readPiece_X4_readNumber
theorem dX4_readPiece_0 : decode cX4_readPiece 0 = .ok (.aload_n 0, 1) := by decide +kernel
theorem dX4_readPiece_1 : decode cX4_readPiece 1 = .ok (.getfield 18, 3) := by decide +kernel
theorem dX4_readPiece_4 : decode cX4_readPiece 4 = .ok (.getfield 50, 3) := by decide +kernel
theorem dX4_readPiece_7 : decode cX4_readPiece 7 = .ok (.istore_n 1, 1) := by decide +kernel
theorem dX4_readPiece_8 : decode cX4_readPiece 8 = .ok (.aload_n 0, 1) := by decide +kernel
theorem dX4_readPiece_9 : decode cX4_readPiece 9 = .ok (.getfield 18, 3) := by decide +kernel
theorem dX4_readPiece_12 : decode cX4_readPiece 12 = .ok (.getfield 78, 3) := by decide +kernel
theorem dX4_readPiece_15 : decode cX4_readPiece 15 = .ok (.iload_n 1, 1) := by decide +kernel
theorem dX4_readPiece_16 : decode cX4_readPiece 16 = .ok (.aload_n 0, 1) := by decide +kernel
theorem dX4_readPiece_17 : decode cX4_readPiece 17 = .ok (.iconst 1, 1) := by decide +kernel
theorem dX4_readPiece_18 : decode cX4_readPiece 18 = .ok (.bipush 99, 2) := by decide +kernel
theorem dX4_readPiece_20 : decode cX4_readPiece 20 = .ok (.invokevirtual 82, 3) := by decide +kernel
theorem dX4_readPiece_23 : decode cX4_readPiece 23 = .ok (.iastore, 1) := by decide +kernel
theorem dX4_readPiece_24 : decode cX4_readPiece 24 = .ok (.aload_n 0, 1) := by decide +kernel
theorem dX4_readPiece_25 : decode cX4_readPiece 25 = .ok (.getfield 18, 3) := by decide +kernel
theorem dX4_readPiece_28 : decode cX4_readPiece 28 = .ok (.getfield 86, 3) := by decide +kernel
theorem dX4_readPiece_31 : decode cX4_readPiece 31 = .ok (.iload_n 1, 1) := by decide +kernel
theorem dX4_readPiece_32 : decode cX4_readPiece 32 = .ok (.aload_n 0, 1) := by decide +kernel
theorem dX4_readPiece_33 : decode cX4_readPiece 33 = .ok (.iconst 1, 1) := by decide +kernel
theorem dX4_readPiece_34 : decode cX4_readPiece 34 = .ok (.bipush 9, 2) := by decide +kernel
theorem dX4_readPiece_36 : decode cX4_readPiece 36 = .ok (.invokevirtual 82, 3) := by decide +kernel
theorem dX4_readPiece_39 : decode cX4_readPiece 39 = .ok (.iastore, 1) := by decide +kernel
theorem dX4_readPiece_40 : decode cX4_readPiece 40 = .ok (.aload_n 0, 1) := by decide +kernel
theorem dX4_readPiece_41 : decode cX4_readPiece 41 = .ok (.getfield 18, 3) := by decide +kernel
theorem dX4_readPiece_44 : decode cX4_readPiece 44 = .ok (.getfield 89, 3) := by decide +kernel
theorem dX4_readPiece_47 : decode cX4_readPiece 47 = .ok (.iload_n 1, 1) := by decide +kernel
theorem dX4_readPiece_48 : decode cX4_readPiece 48 = .ok (.aload_n 0, 1) := by decide +kernel
theorem dX4_readPiece_49 : decode cX4_readPiece 49 = .ok (.iconst 1, 1) := by decide +kernel
theorem dX4_readPiece_50 : decode cX4_readPiece 50 = .ok (.iconst 3, 1) := by decide +kernel
theorem dX4_readPiece_51 : decode cX4_readPiece 51 = .ok (.invokevirtual 82, 3) := by decide +kernel
theorem dX4_readPiece_54 : decode cX4_readPiece 54 = .ok (.iastore, 1) := by decide +kernel
theorem dX4_readPiece_55 : decode cX4_readPiece 55 = .ok (.aload_n 0, 1) := by decide +kernel
theorem dX4_readPiece_56 : decode cX4_readPiece 56 = .ok (.getfield 18, 3) := by decide +kernel
theorem dX4_readPiece_59 : decode cX4_readPiece 59 = .ok (.dup, 1) := by decide +kernel
theorem dX4_readPiece_60 : decode cX4_readPiece 60 = .ok (.getfield 50, 3) := by decide +kernel
theorem dX4_readPiece_63 : decode cX4_readPiece 63 = .ok (.iconst 1, 1) := by decide +kernel
theorem dX4_readPiece_64 : decode cX4_readPiece 64 = .ok (.iadd, 1) := by decide +kernel
theorem dX4_readPiece_65 : decode cX4_readPiece 65 = .ok (.putfield 50, 3) := by decide +kernel
theorem dX4_readPiece_68 : decode cX4_readPiece 68 = .ok (.return_, 1) := by decide +kernel
set_option maxRecDepth 20000 in
theorem ggX4_readSpot_X4_readNumber : GoodIn wsX4_readSpot wsX4_readNumber := goodIn_r _ [9, 10, 11, 12, 13, 14, 15, 16, 8, 17, 18, 19, 20, 21, 22, 23, 24, 25, 26, 27, 28, 29, 30, 31, 32, 33, 34, 35, 36, 37, 38, 39, 40, 41, 42, 43, 44, 45, 46, 47, 48, 49] (by decide +kernel) (by decide +kernel)
set_option maxRecDepth 20000 in
theorem gX4_readSpot_X4_readNumber : GoodIn wsX4_readSpot (wsV RX4 82 RX4 yX4_readNumber wsX4_readNumber) := goodIn_app (goodIn_of _ (by decide +kernel)) ggX4_readSpot_X4_readNumber
theorem dX4_readSpot_0 : decode cX4_readSpot 0 = .ok (.aload_n 0, 1) := by decide +kernel
theorem dX4_readSpot_1 : decode cX4_readSpot 1 = .ok (.getfield 18, 3) := by decide +kernel
theorem dX4_readSpot_4 : decode cX4_readSpot 4 = .ok (.getfield 58, 3) := by decide +kernel
theorem dX4_readSpot_7 : decode cX4_readSpot 7 = .ok (.istore_n 1, 1) := by decide +kernel
theorem dX4_readSpot_8 : decode cX4_readSpot 8 = .ok (.aload_n 0, 1) := by decide +kernel
theorem dX4_readSpot_9 : decode cX4_readSpot 9 = .ok (.getfield 18, 3) := by decide +kernel
theorem dX4_readSpot_12 : decode cX4_readSpot 12 = .ok (.getfield 92, 3) := by decide +kernel
theorem dX4_readSpot_15 : decode cX4_readSpot 15 = .ok (.iload_n 1, 1) := by decide +kernel
theorem dX4_readSpot_16 : decode cX4_readSpot 16 = .ok (.aload_n 0, 1) := by decide +kernel
theorem dX4_readSpot_17 : decode cX4_readSpot 17 = .ok (.iconst 1, 1) := by decide +kernel
theorem dX4_readSpot_18 : decode cX4_readSpot 18 = .ok (.bipush 9, 2) := by decide +kernel
theorem dX4_readSpot_20 : decode cX4_readSpot 20 = .ok (.invokevirtual 82, 3) := by decide +kernel
theorem dX4_readSpot_23 : decode cX4_readSpot 23 = .ok (.iastore, 1) := by decide +kernel
theorem dX4_readSpot_24 : decode cX4_readSpot 24 = .ok (.aload_n 0, 1) := by decide +kernel
theorem dX4_readSpot_25 : decode cX4_readSpot 25 = .ok (.getfield 18, 3) := by decide +kernel
theorem dX4_readSpot_28 : decode cX4_readSpot 28 = .ok (.getfield 95, 3) := by decide +kernel
theorem dX4_readSpot_31 : decode cX4_readSpot 31 = .ok (.iload_n 1, 1) := by decide +kernel
theorem dX4_readSpot_32 : decode cX4_readSpot 32 = .ok (.aload_n 0, 1) := by decide +kernel
theorem dX4_readSpot_33 : decode cX4_readSpot 33 = .ok (.iconst 0, 1) := by decide +kernel
theorem dX4_readSpot_34 : decode cX4_readSpot 34 = .ok (.bipush 9, 2) := by decide +kernel
theorem dX4_readSpot_36 : decode cX4_readSpot 36 = .ok (.invokevirtual 82, 3) := by decide +kernel
theorem dX4_readSpot_39 : decode cX4_readSpot 39 = .ok (.iastore, 1) := by decide +kernel
theorem dX4_readSpot_40 : decode cX4_readSpot 40 = .ok (.aload_n 0, 1) := by decide +kernel
theorem dX4_readSpot_41 : decode cX4_readSpot 41 = .ok (.getfield 18, 3) := by decide +kernel
theorem dX4_readSpot_44 : decode cX4_readSpot 44 = .ok (.dup, 1) := by decide +kernel
theorem dX4_readSpot_45 : decode cX4_readSpot 45 = .ok (.getfield 58, 3) := by decide +kernel
theorem dX4_readSpot_48 : decode cX4_readSpot 48 = .ok (.iconst 1, 1) := by decide +kernel
theorem dX4_readSpot_49 : decode cX4_readSpot 49 = .ok (.iadd, 1) := by decide +kernel
theorem dX4_readSpot_50 : decode cX4_readSpot 50 = .ok (.putfield 58, 3) := by decide +kernel
theorem dX4_readSpot_53 : decode cX4_readSpot 53 = .ok (.return_, 1) := by decide +kernel
set_option maxRecDepth 20000 in
theorem ggX4_readSteps_X4_readNumber : GoodIn wsX4_readSteps wsX4_readNumber := goodIn_r _ [8, 9, 10, 11, 12, 13, 14, 15, 7, 16, 17, 18, 19, 20, 21, 22, 23, 24, 25, 26, 27, 28, 29, 30, 31, 32, 33, 34, 35, 36, 37, 38, 39, 40, 41, 42, 43, 44, 45, 46, 47, 48] (by decide +kernel) (by decide +kernel)
set_option maxRecDepth 20000 in
theorem gX4_readSteps_X4_readNumber : GoodIn wsX4_readSteps (wsV RX4 82 RX4 yX4_readNumber wsX4_readNumber) := goodIn_app (goodIn_of _ (by decide +kernel)) ggX4_readSteps_X4_readNumber
theorem dX4_readSteps_0 : decode cX4_readSteps 0 = .ok (.iload_n 2, 1) := by decide +kernel
theorem dX4_readSteps_1 : decode cX4_readSteps 1 = .ok (.aload_n 0, 1) := by decide +kernel
theorem dX4_readSteps_2 : decode cX4_readSteps 2 = .ok (.iload_n 1, 1) := by decide +kernel
theorem dX4_readSteps_3 : decode cX4_readSteps 3 = .ok (.bipush 9, 2) := by decide +kernel
theorem dX4_readSteps_5 : decode cX4_readSteps 5 = .ok (.invokevirtual 82, 3) := by decide +kernel
theorem dX4_readSteps_8 : decode cX4_readSteps 8 = .ok (.imul, 1) := by decide +kernel
theorem dX4_readSteps_9 : decode cX4_readSteps 9 = .ok (.istore_n 3, 1) := by decide +kernel
theorem dX4_readSteps_10 : decode cX4_readSteps 10 = .ok (.aload_n 0, 1) := by decide +kernel
theorem dX4_readSteps_11 : decode cX4_readSteps 11 = .ok (.iconst 1, 1) := by decide +kernel
theorem dX4_readSteps_12 : decode cX4_readSteps 12 = .ok (.bipush 24, 2) := by decide +kernel
theorem dX4_readSteps_14 : decode cX4_readSteps 14 = .ok (.aload_n 0, 1) := by decide +kernel
theorem dX4_readSteps_15 : decode cX4_readSteps 15 = .ok (.getfield 18, 3) := by decide +kernel
theorem dX4_readSteps_18 : decode cX4_readSteps 18 = .ok (.getfield 98, 3) := by decide +kernel
theorem dX4_readSteps_21 : decode cX4_readSteps 21 = .ok (.isub, 1) := by decide +kernel
theorem dX4_readSteps_22 : decode cX4_readSteps 22 = .ok (.invokevirtual 82, 3) := by decide +kernel
theorem dX4_readSteps_25 : decode cX4_readSteps 25 = .ok (.istore 4, 2) := by decide +kernel
theorem dX4_readSteps_27 : decode cX4_readSteps 27 = .ok (.iconst 0, 1) := by decide +kernel
theorem dX4_readSteps_28 : decode cX4_readSteps 28 = .ok (.istore 5, 2) := by decide +kernel
theorem dX4_readSteps_30 : decode cX4_readSteps 30 = .ok (.iload 5, 2) := by decide +kernel
theorem dX4_readSteps_32 : decode cX4_readSteps 32 = .ok (.iload 4, 2) := by decide +kernel
theorem dX4_readSteps_34 : decode cX4_readSteps 34 = .ok (.if_icmp .ge 50, 3) := by decide +kernel
theorem dX4_readSteps_37 : decode cX4_readSteps 37 = .ok (.aload_n 0, 1) := by decide +kernel
theorem dX4_readSteps_38 : decode cX4_readSteps 38 = .ok (.getfield 18, 3) := by decide +kernel
theorem dX4_readSteps_41 : decode cX4_readSteps 41 = .ok (.getfield 98, 3) := by decide +kernel
theorem dX4_readSteps_44 : decode cX4_readSteps 44 = .ok (.bipush 24, 2) := by decide +kernel
theorem dX4_readSteps_46 : decode cX4_readSteps 46 = .ok (.if_icmp .ge 38, 3) := by decide +kernel
theorem dX4_readSteps_49 : decode cX4_readSteps 49 = .ok (.aload_n 0, 1) := by decide +kernel
theorem dX4_readSteps_50 : decode cX4_readSteps 50 = .ok (.getfield 18, 3) := by decide +kernel
theorem dX4_readSteps_53 : decode cX4_readSteps 53 = .ok (.getfield 101, 3) := by decide +kernel
theorem dX4_readSteps_56 : decode cX4_readSteps 56 = .ok (.aload_n 0, 1) := by decide +kernel
theorem dX4_readSteps_57 : decode cX4_readSteps 57 = .ok (.getfield 18, 3) := by decide +kernel
theorem dX4_readSteps_60 : decode cX4_readSteps 60 = .ok (.getfield 98, 3) := by decide +kernel
theorem dX4_readSteps_63 : decode cX4_readSteps 63 = .ok (.iload_n 3, 1) := by decide +kernel
theorem dX4_readSteps_64 : decode cX4_readSteps 64 = .ok (.iastore, 1) := by decide +kernel
theorem dX4_readSteps_65 : decode cX4_readSteps 65 = .ok (.aload_n 0, 1) := by decide +kernel
theorem dX4_readSteps_66 : decode cX4_readSteps 66 = .ok (.getfield 18, 3) := by decide +kernel
theorem dX4_readSteps_69 : decode cX4_readSteps 69 = .ok (.dup, 1) := by decide +kernel
theorem dX4_readSteps_70 : decode cX4_readSteps 70 = .ok (.getfield 98, 3) := by decide +kernel
theorem dX4_readSteps_73 : decode cX4_readSteps 73 = .ok (.iconst 1, 1) := by decide +kernel
theorem dX4_readSteps_74 : decode cX4_readSteps 74 = .ok (.iadd, 1) := by decide +kernel
theorem dX4_readSteps_75 : decode cX4_readSteps 75 = .ok (.putfield 98, 3) := by decide +kernel
theorem dX4_readSteps_78 : decode cX4_readSteps 78 = .ok (.iinc 5 1, 3) := by decide +kernel
theorem dX4_readSteps_81 : decode cX4_readSteps 81 = .ok (.goto (-51), 3) := by decide +kernel
theorem dX4_readSteps_84 : decode cX4_readSteps 84 = .ok (.return_, 1) := by decide +kernel
set_option maxRecDepth 20000 in
theorem ggX4_readNumber_X4_scan : GoodIn wsX4_readNumber wsX4_scan := goodIn_r _ [9, 10, 11, 12, 4, 2, 13, 14, 8, 15, 16, 17, 18, 19, 20, 21, 22, 23, 24, 25, 26, 3, 27, 28, 29, 30, 34, 35, 36, 37, 38, 39, 40, 41] (by decide +kernel) (by decide +kernel)
set_option maxRecDepth 20000 in
theorem gX4_readNumber_X4_scan : GoodIn wsX4_readNumber (wsV RX4 35 RX4 yX4_scan wsX4_scan) := goodIn_app (goodIn_of _ (by decide +kernel)) ggX4_readNumber_X4_scan
set_option maxRecDepth 20000 in
theorem ggX4_readNumber_X7_within : GoodIn wsX4_readNumber wsX7_within := goodIn_r _ [33] (by decide +kernel) (by decide +kernel)
set_option maxRecDepth 20000 in
theorem gX4_readNumber_X7_within_n107 : GoodIn wsX4_readNumber (wsX7_within) := ggX4_readNumber_X7_within
theorem dX4_readNumber_0 : decode cX4_readNumber 0 = .ok (.aload_n 0, 1) := by decide +kernel
theorem dX4_readNumber_1 : decode cX4_readNumber 1 = .ok (.getfield 32, 3) := by decide +kernel
theorem dX4_readNumber_4 : decode cX4_readNumber 4 = .ok (.iconst (-1), 1) := by decide +kernel
theorem dX4_readNumber_5 : decode cX4_readNumber 5 = .ok (.if_icmp .eq 5, 3) := by decide +kernel
theorem dX4_readNumber_8 : decode cX4_readNumber 8 = .ok (.iconst 0, 1) := by decide +kernel
theorem dX4_readNumber_9 : decode cX4_readNumber 9 = .ok (.ireturn, 1) := by decide +kernel
theorem dX4_readNumber_10 : decode cX4_readNumber 10 = .ok (.aload_n 0, 1) := by decide +kernel
theorem dX4_readNumber_11 : decode cX4_readNumber 11 = .ok (.invokevirtual 35, 3) := by decide +kernel
theorem dX4_readNumber_14 : decode cX4_readNumber 14 = .ok (.aload_n 0, 1) := by decide +kernel
theorem dX4_readNumber_15 : decode cX4_readNumber 15 = .ok (.getfield 38, 3) := by decide +kernel
theorem dX4_readNumber_18 : decode cX4_readNumber 18 = .ok (.iconst 2, 1) := by decide +kernel
theorem dX4_readNumber_19 : decode cX4_readNumber 19 = .ok (.if_icmp .ne 15, 3) := by decide +kernel
theorem dX4_readNumber_22 : decode cX4_readNumber 22 = .ok (.aload_n 0, 1) := by decide +kernel
theorem dX4_readNumber_23 : decode cX4_readNumber 23 = .ok (.getfield 104, 3) := by decide +kernel
theorem dX4_readNumber_26 : decode cX4_readNumber 26 = .ok (.iload_n 1, 1) := by decide +kernel
theorem dX4_readNumber_27 : decode cX4_readNumber 27 = .ok (.iload_n 2, 1) := by decide +kernel
theorem dX4_readNumber_28 : decode cX4_readNumber 28 = .ok (.invokestatic 107, 3) := by decide +kernel
theorem dX4_readNumber_31 : decode cX4_readNumber 31 = .ok (.ifCond .ne 13, 3) := by decide +kernel
theorem dX4_readNumber_34 : decode cX4_readNumber 34 = .ok (.aload_n 0, 1) := by decide +kernel
theorem dX4_readNumber_35 : decode cX4_readNumber 35 = .ok (.aload_n 0, 1) := by decide +kernel
theorem dX4_readNumber_36 : decode cX4_readNumber 36 = .ok (.getfield 72, 3) := by decide +kernel
theorem dX4_readNumber_39 : decode cX4_readNumber 39 = .ok (.putfield 32, 3) := by decide +kernel
theorem dX4_readNumber_42 : decode cX4_readNumber 42 = .ok (.iconst 0, 1) := by decide +kernel
theorem dX4_readNumber_43 : decode cX4_readNumber 43 = .ok (.ireturn, 1) := by decide +kernel
theorem dX4_readNumber_44 : decode cX4_readNumber 44 = .ok (.aload_n 0, 1) := by decide +kernel
theorem dX4_readNumber_45 : decode cX4_readNumber 45 = .ok (.getfield 104, 3) := by decide +kernel
theorem dX4_readNumber_48 : decode cX4_readNumber 48 = .ok (.ireturn, 1) := by decide +kernel
set_option maxRecDepth 20000 in
theorem ggX4_readSemicolon_X4_scan : GoodIn wsX4_readSemicolon wsX4_scan := goodIn_r _ [8, 9, 10, 11, 3, 2, 12, 13, 7, 14, 15, 16, 17, 18, 19, 20, 21, 22, 23, 24, 25, 26, 27, 28, 29, 30, 31, 32, 33, 34, 35, 36, 37, 38] (by decide +kernel) (by decide +kernel)
set_option maxRecDepth 20000 in
theorem gX4_readSemicolon_X4_scan : GoodIn wsX4_readSemicolon (wsV RX4 35 RX4 yX4_scan wsX4_scan) := goodIn_app (goodIn_of _ (by decide +kernel)) ggX4_readSemicolon_X4_scan
theorem dX4_readSemicolon_0 : decode cX4_readSemicolon 0 = .ok (.aload_n 0, 1) := by decide +kernel
theorem dX4_readSemicolon_1 : decode cX4_readSemicolon 1 = .ok (.getfield 32, 3) := by decide +kernel
theorem dX4_readSemicolon_4 : decode cX4_readSemicolon 4 = .ok (.iconst (-1), 1) := by decide +kernel
theorem dX4_readSemicolon_5 : decode cX4_readSemicolon 5 = .ok (.if_icmp .eq 4, 3) := by decide +kernel
theorem dX4_readSemicolon_8 : decode cX4_readSemicolon 8 = .ok (.return_, 1) := by decide +kernel
theorem dX4_readSemicolon_9 : decode cX4_readSemicolon 9 = .ok (.aload_n 0, 1) := by decide +kernel
theorem dX4_readSemicolon_10 : decode cX4_readSemicolon 10 = .ok (.invokevirtual 35, 3) := by decide +kernel
theorem dX4_readSemicolon_13 : decode cX4_readSemicolon 13 = .ok (.aload_n 0, 1) := by decide +kernel
theorem dX4_readSemicolon_14 : decode cX4_readSemicolon 14 = .ok (.getfield 38, 3) := by decide +kernel
theorem dX4_readSemicolon_17 : decode cX4_readSemicolon 17 = .ok (.iconst 3, 1) := by decide +kernel
theorem dX4_readSemicolon_18 : decode cX4_readSemicolon 18 = .ok (.if_icmp .eq 11, 3) := by decide +kernel
theorem dX4_readSemicolon_21 : decode cX4_readSemicolon 21 = .ok (.aload_n 0, 1) := by decide +kernel
theorem dX4_readSemicolon_22 : decode cX4_readSemicolon 22 = .ok (.aload_n 0, 1) := by decide +kernel
theorem dX4_readSemicolon_23 : decode cX4_readSemicolon 23 = .ok (.getfield 72, 3) := by decide +kernel
theorem dX4_readSemicolon_26 : decode cX4_readSemicolon 26 = .ok (.putfield 32, 3) := by decide +kernel
theorem dX4_readSemicolon_29 : decode cX4_readSemicolon 29 = .ok (.return_, 1) := by decide +kernel
set_option maxRecDepth 20000 in
theorem ggX4_scan_X4_isLetter : GoodIn wsX4_scan wsX4_isLetter := goodIn_r _ [9] (by decide +kernel) (by decide +kernel)
set_option maxRecDepth 20000 in
theorem gX4_scan_X4_isLetter : GoodIn wsX4_scan (va_wsS RX4 111 yX4_isLetter wsX4_isLetter) := goodIn_app (goodIn_of _ (by decide +kernel)) ggX4_scan_X4_isLetter
set_option maxRecDepth 20000 in
theorem ggX4_scan_X4_scanWord : GoodIn wsX4_scan wsX4_scanWord := goodIn_r _ [13, 5, 1, 2, 3, 6, 7, 8, 9, 26, 27, 28, 29, 30, 31, 32, 33] (by decide +kernel) (by decide +kernel)
set_option maxRecDepth 20000 in
theorem gX4_scan_X4_scanWord : GoodIn wsX4_scan (wsV RX4 115 RX4 yX4_scanWord wsX4_scanWord) := goodIn_app (goodIn_of _ (by decide +kernel)) ggX4_scan_X4_scanWord
set_option maxRecDepth 20000 in
theorem ggX4_scan_X4_isDigit : GoodIn wsX4_scan wsX4_isDigit := goodIn_r _ [16] (by decide +kernel) (by decide +kernel)
set_option maxRecDepth 20000 in
theorem gX4_scan_X4_isDigit : GoodIn wsX4_scan (va_wsS RX4 118 yX4_isDigit wsX4_isDigit) := goodIn_app (goodIn_of _ (by decide +kernel)) ggX4_scan_X4_isDigit
set_option maxRecDepth 20000 in
theorem ggX4_scan_X4_scanNumber : GoodIn wsX4_scan wsX4_scanNumber := goodIn_r _ [20, 21, 1, 2, 3, 22, 23, 24, 25, 4, 5, 14, 15, 8, 16, 26, 27, 28, 29, 30, 31, 32, 33] (by decide +kernel) (by decide +kernel)
set_option maxRecDepth 20000 in
theorem gX4_scan_X4_scanNumber : GoodIn wsX4_scan (wsV RX4 121 RX4 yX4_scanNumber wsX4_scanNumber) := goodIn_app (goodIn_of _ (by decide +kernel)) ggX4_scan_X4_scanNumber
theorem dX4_scan_0 : decode cX4_scan 0 = .ok (.aload_n 0, 1) := by decide +kernel
theorem dX4_scan_1 : decode cX4_scan 1 = .ok (.getfield 29, 3) := by decide +kernel
theorem dX4_scan_4 : decode cX4_scan 4 = .ok (.aload_n 0, 1) := by decide +kernel
theorem dX4_scan_5 : decode cX4_scan 5 = .ok (.getfield 22, 3) := by decide +kernel
theorem dX4_scan_8 : decode cX4_scan 8 = .ok (.if_icmp .ge 30, 3) := by decide +kernel
theorem dX4_scan_11 : decode cX4_scan 11 = .ok (.aload_n 0, 1) := by decide +kernel
theorem dX4_scan_12 : decode cX4_scan 12 = .ok (.getfield 9, 3) := by decide +kernel
theorem dX4_scan_15 : decode cX4_scan 15 = .ok (.aload_n 0, 1) := by decide +kernel
theorem dX4_scan_16 : decode cX4_scan 16 = .ok (.getfield 29, 3) := by decide +kernel
theorem dX4_scan_19 : decode cX4_scan 19 = .ok (.baload, 1) := by decide +kernel
theorem dX4_scan_20 : decode cX4_scan 20 = .ok (.bipush 32, 2) := by decide +kernel
theorem dX4_scan_22 : decode cX4_scan 22 = .ok (.if_icmp .ne 16, 3) := by decide +kernel
theorem dX4_scan_25 : decode cX4_scan 25 = .ok (.aload_n 0, 1) := by decide +kernel
theorem dX4_scan_26 : decode cX4_scan 26 = .ok (.dup, 1) := by decide +kernel
theorem dX4_scan_27 : decode cX4_scan 27 = .ok (.getfield 29, 3) := by decide +kernel
theorem dX4_scan_30 : decode cX4_scan 30 = .ok (.iconst 1, 1) := by decide +kernel
theorem dX4_scan_31 : decode cX4_scan 31 = .ok (.iadd, 1) := by decide +kernel
theorem dX4_scan_32 : decode cX4_scan 32 = .ok (.putfield 29, 3) := by decide +kernel
theorem dX4_scan_35 : decode cX4_scan 35 = .ok (.goto (-35), 3) := by decide +kernel
theorem dX4_scan_38 : decode cX4_scan 38 = .ok (.aload_n 0, 1) := by decide +kernel
theorem dX4_scan_39 : decode cX4_scan 39 = .ok (.aload_n 0, 1) := by decide +kernel
theorem dX4_scan_40 : decode cX4_scan 40 = .ok (.getfield 29, 3) := by decide +kernel
theorem dX4_scan_43 : decode cX4_scan 43 = .ok (.putfield 72, 3) := by decide +kernel
theorem dX4_scan_46 : decode cX4_scan 46 = .ok (.aload_n 0, 1) := by decide +kernel
theorem dX4_scan_47 : decode cX4_scan 47 = .ok (.getfield 29, 3) := by decide +kernel
theorem dX4_scan_50 : decode cX4_scan 50 = .ok (.aload_n 0, 1) := by decide +kernel
theorem dX4_scan_51 : decode cX4_scan 51 = .ok (.getfield 22, 3) := by decide +kernel
theorem dX4_scan_54 : decode cX4_scan 54 = .ok (.if_icmp .lt 11, 3) := by decide +kernel
theorem dX4_scan_57 : decode cX4_scan 57 = .ok (.aload_n 0, 1) := by decide +kernel
theorem dX4_scan_58 : decode cX4_scan 58 = .ok (.iconst 0, 1) := by decide +kernel
theorem dX4_scan_59 : decode cX4_scan 59 = .ok (.putfield 38, 3) := by decide +kernel
theorem dX4_scan_62 : decode cX4_scan 62 = .ok (.goto 80, 3) := by decide +kernel
theorem dX4_scan_65 : decode cX4_scan 65 = .ok (.aload_n 0, 1) := by decide +kernel
theorem dX4_scan_66 : decode cX4_scan 66 = .ok (.getfield 9, 3) := by decide +kernel
theorem dX4_scan_69 : decode cX4_scan 69 = .ok (.aload_n 0, 1) := by decide +kernel
theorem dX4_scan_70 : decode cX4_scan 70 = .ok (.getfield 29, 3) := by decide +kernel
theorem dX4_scan_73 : decode cX4_scan 73 = .ok (.baload, 1) := by decide +kernel
theorem dX4_scan_74 : decode cX4_scan 74 = .ok (.invokestatic 111, 3) := by decide +kernel
theorem dX4_scan_77 : decode cX4_scan 77 = .ok (.ifCond .eq 10, 3) := by decide +kernel
theorem dX4_scan_80 : decode cX4_scan 80 = .ok (.aload_n 0, 1) := by decide +kernel
theorem dX4_scan_81 : decode cX4_scan 81 = .ok (.invokevirtual 115, 3) := by decide +kernel
theorem dX4_scan_84 : decode cX4_scan 84 = .ok (.goto 58, 3) := by decide +kernel
theorem dX4_scan_87 : decode cX4_scan 87 = .ok (.aload_n 0, 1) := by decide +kernel
theorem dX4_scan_88 : decode cX4_scan 88 = .ok (.getfield 9, 3) := by decide +kernel
theorem dX4_scan_91 : decode cX4_scan 91 = .ok (.aload_n 0, 1) := by decide +kernel
theorem dX4_scan_92 : decode cX4_scan 92 = .ok (.getfield 29, 3) := by decide +kernel
theorem dX4_scan_95 : decode cX4_scan 95 = .ok (.baload, 1) := by decide +kernel
theorem dX4_scan_96 : decode cX4_scan 96 = .ok (.invokestatic 118, 3) := by decide +kernel
theorem dX4_scan_99 : decode cX4_scan 99 = .ok (.ifCond .eq 10, 3) := by decide +kernel
theorem dX4_scan_102 : decode cX4_scan 102 = .ok (.aload_n 0, 1) := by decide +kernel
theorem dX4_scan_103 : decode cX4_scan 103 = .ok (.invokevirtual 121, 3) := by decide +kernel
theorem dX4_scan_106 : decode cX4_scan 106 = .ok (.goto 36, 3) := by decide +kernel
theorem dX4_scan_109 : decode cX4_scan 109 = .ok (.aload_n 0, 1) := by decide +kernel
theorem dX4_scan_110 : decode cX4_scan 110 = .ok (.aload_n 0, 1) := by decide +kernel
theorem dX4_scan_111 : decode cX4_scan 111 = .ok (.getfield 9, 3) := by decide +kernel
theorem dX4_scan_114 : decode cX4_scan 114 = .ok (.aload_n 0, 1) := by decide +kernel
theorem dX4_scan_115 : decode cX4_scan 115 = .ok (.getfield 29, 3) := by decide +kernel
theorem dX4_scan_118 : decode cX4_scan 118 = .ok (.baload, 1) := by decide +kernel
theorem dX4_scan_119 : decode cX4_scan 119 = .ok (.bipush 59, 2) := by decide +kernel
theorem dX4_scan_121 : decode cX4_scan 121 = .ok (.if_icmp .ne 7, 3) := by decide +kernel
theorem dX4_scan_124 : decode cX4_scan 124 = .ok (.iconst 3, 1) := by decide +kernel
theorem dX4_scan_125 : decode cX4_scan 125 = .ok (.goto 4, 3) := by decide +kernel
theorem dX4_scan_128 : decode cX4_scan 128 = .ok (.iconst 4, 1) := by decide +kernel
theorem dX4_scan_129 : decode cX4_scan 129 = .ok (.putfield 38, 3) := by decide +kernel
theorem dX4_scan_132 : decode cX4_scan 132 = .ok (.aload_n 0, 1) := by decide +kernel
theorem dX4_scan_133 : decode cX4_scan 133 = .ok (.dup, 1) := by decide +kernel
theorem dX4_scan_134 : decode cX4_scan 134 = .ok (.getfield 29, 3) := by decide +kernel
theorem dX4_scan_137 : decode cX4_scan 137 = .ok (.iconst 1, 1) := by decide +kernel
theorem dX4_scan_138 : decode cX4_scan 138 = .ok (.iadd, 1) := by decide +kernel
theorem dX4_scan_139 : decode cX4_scan 139 = .ok (.putfield 29, 3) := by decide +kernel
theorem dX4_scan_142 : decode cX4_scan 142 = .ok (.return_, 1) := by decide +kernel
set_option maxRecDepth 20000 in
theorem ggX4_scanWord_X4_isLetter : GoodIn wsX4_scanWord wsX4_isLetter := goodIn_r _ [8] (by decide +kernel) (by decide +kernel)
set_option maxRecDepth 20000 in
theorem gX4_scanWord_X4_isLetter : GoodIn wsX4_scanWord (va_wsS RX4 111 yX4_isLetter wsX4_isLetter) := goodIn_app (goodIn_of _ (by decide +kernel)) ggX4_scanWord_X4_isLetter
theorem dX4_scanWord_0 : decode cX4_scanWord 0 = .ok (.aload_n 0, 1) := by decide +kernel
theorem dX4_scanWord_1 : decode cX4_scanWord 1 = .ok (.iconst 1, 1) := by decide +kernel
theorem dX4_scanWord_2 : decode cX4_scanWord 2 = .ok (.putfield 38, 3) := by decide +kernel
theorem dX4_scanWord_5 : decode cX4_scanWord 5 = .ok (.aload_n 0, 1) := by decide +kernel
theorem dX4_scanWord_6 : decode cX4_scanWord 6 = .ok (.getfield 29, 3) := by decide +kernel
theorem dX4_scanWord_9 : decode cX4_scanWord 9 = .ok (.aload_n 0, 1) := by decide +kernel
theorem dX4_scanWord_10 : decode cX4_scanWord 10 = .ok (.getfield 22, 3) := by decide +kernel
theorem dX4_scanWord_13 : decode cX4_scanWord 13 = .ok (.if_icmp .ge 31, 3) := by decide +kernel
theorem dX4_scanWord_16 : decode cX4_scanWord 16 = .ok (.aload_n 0, 1) := by decide +kernel
theorem dX4_scanWord_17 : decode cX4_scanWord 17 = .ok (.getfield 9, 3) := by decide +kernel
theorem dX4_scanWord_20 : decode cX4_scanWord 20 = .ok (.aload_n 0, 1) := by decide +kernel
theorem dX4_scanWord_21 : decode cX4_scanWord 21 = .ok (.getfield 29, 3) := by decide +kernel
theorem dX4_scanWord_24 : decode cX4_scanWord 24 = .ok (.baload, 1) := by decide +kernel
theorem dX4_scanWord_25 : decode cX4_scanWord 25 = .ok (.invokestatic 111, 3) := by decide +kernel
theorem dX4_scanWord_28 : decode cX4_scanWord 28 = .ok (.ifCond .eq 16, 3) := by decide +kernel
theorem dX4_scanWord_31 : decode cX4_scanWord 31 = .ok (.aload_n 0, 1) := by decide +kernel
theorem dX4_scanWord_32 : decode cX4_scanWord 32 = .ok (.dup, 1) := by decide +kernel
theorem dX4_scanWord_33 : decode cX4_scanWord 33 = .ok (.getfield 29, 3) := by decide +kernel
theorem dX4_scanWord_36 : decode cX4_scanWord 36 = .ok (.iconst 1, 1) := by decide +kernel
theorem dX4_scanWord_37 : decode cX4_scanWord 37 = .ok (.iadd, 1) := by decide +kernel
theorem dX4_scanWord_38 : decode cX4_scanWord 38 = .ok (.putfield 29, 3) := by decide +kernel
theorem dX4_scanWord_41 : decode cX4_scanWord 41 = .ok (.goto (-36), 3) := by decide +kernel
theorem dX4_scanWord_44 : decode cX4_scanWord 44 = .ok (.return_, 1) := by decide +kernel
set_option maxRecDepth 20000 in
theorem ggX4_scanNumber_X4_isDigit : GoodIn wsX4_scanNumber wsX4_isDigit := goodIn_r _ [14] (by decide +kernel) (by decide +kernel)
set_option maxRecDepth 20000 in
theorem gX4_scanNumber_X4_isDigit : GoodIn wsX4_scanNumber (va_wsS RX4 118 yX4_isDigit wsX4_isDigit) := goodIn_app (goodIn_of _ (by decide +kernel)) ggX4_scanNumber_X4_isDigit
theorem dX4_scanNumber_0 : decode cX4_scanNumber 0 = .ok (.aload_n 0, 1) := by decide +kernel
theorem dX4_scanNumber_1 : decode cX4_scanNumber 1 = .ok (.iconst 0, 1) := by decide +kernel
theorem dX4_scanNumber_2 : decode cX4_scanNumber 2 = .ok (.putfield 104, 3) := by decide +kernel
theorem dX4_scanNumber_5 : decode cX4_scanNumber 5 = .ok (.aload_n 0, 1) := by decide +kernel
theorem dX4_scanNumber_6 : decode cX4_scanNumber 6 = .ok (.getfield 29, 3) := by decide +kernel
theorem dX4_scanNumber_9 : decode cX4_scanNumber 9 = .ok (.aload_n 0, 1) := by decide +kernel
theorem dX4_scanNumber_10 : decode cX4_scanNumber 10 = .ok (.getfield 22, 3) := by decide +kernel
theorem dX4_scanNumber_13 : decode cX4_scanNumber 13 = .ok (.if_icmp .ge 60, 3) := by decide +kernel
theorem dX4_scanNumber_16 : decode cX4_scanNumber 16 = .ok (.aload_n 0, 1) := by decide +kernel
theorem dX4_scanNumber_17 : decode cX4_scanNumber 17 = .ok (.getfield 9, 3) := by decide +kernel
theorem dX4_scanNumber_20 : decode cX4_scanNumber 20 = .ok (.aload_n 0, 1) := by decide +kernel
theorem dX4_scanNumber_21 : decode cX4_scanNumber 21 = .ok (.getfield 29, 3) := by decide +kernel
theorem dX4_scanNumber_24 : decode cX4_scanNumber 24 = .ok (.baload, 1) := by decide +kernel
theorem dX4_scanNumber_25 : decode cX4_scanNumber 25 = .ok (.invokestatic 118, 3) := by decide +kernel
theorem dX4_scanNumber_28 : decode cX4_scanNumber 28 = .ok (.ifCond .eq 45, 3) := by decide +kernel
theorem dX4_scanNumber_31 : decode cX4_scanNumber 31 = .ok (.aload_n 0, 1) := by decide +kernel
theorem dX4_scanNumber_32 : decode cX4_scanNumber 32 = .ok (.bipush 100, 2) := by decide +kernel
theorem dX4_scanNumber_34 : decode cX4_scanNumber 34 = .ok (.bipush 10, 2) := by decide +kernel
theorem dX4_scanNumber_36 : decode cX4_scanNumber 36 = .ok (.aload_n 0, 1) := by decide +kernel
theorem dX4_scanNumber_37 : decode cX4_scanNumber 37 = .ok (.getfield 104, 3) := by decide +kernel
theorem dX4_scanNumber_40 : decode cX4_scanNumber 40 = .ok (.imul, 1) := by decide +kernel
theorem dX4_scanNumber_41 : decode cX4_scanNumber 41 = .ok (.aload_n 0, 1) := by decide +kernel
theorem dX4_scanNumber_42 : decode cX4_scanNumber 42 = .ok (.getfield 9, 3) := by decide +kernel
theorem dX4_scanNumber_45 : decode cX4_scanNumber 45 = .ok (.aload_n 0, 1) := by decide +kernel
theorem dX4_scanNumber_46 : decode cX4_scanNumber 46 = .ok (.getfield 29, 3) := by decide +kernel
theorem dX4_scanNumber_49 : decode cX4_scanNumber 49 = .ok (.baload, 1) := by decide +kernel
theorem dX4_scanNumber_50 : decode cX4_scanNumber 50 = .ok (.iadd, 1) := by decide +kernel
theorem dX4_scanNumber_51 : decode cX4_scanNumber 51 = .ok (.bipush 48, 2) := by decide +kernel
theorem dX4_scanNumber_53 : decode cX4_scanNumber 53 = .ok (.isub, 1) := by decide +kernel
theorem dX4_scanNumber_54 : decode cX4_scanNumber 54 = .ok (.invokestatic 124, 3) := by decide +kernel
theorem dX4_scanNumber_57 : decode cX4_scanNumber 57 = .ok (.putfield 104, 3) := by decide +kernel
theorem dX4_scanNumber_60 : decode cX4_scanNumber 60 = .ok (.aload_n 0, 1) := by decide +kernel
theorem dX4_scanNumber_61 : decode cX4_scanNumber 61 = .ok (.dup, 1) := by decide +kernel
theorem dX4_scanNumber_62 : decode cX4_scanNumber 62 = .ok (.getfield 29, 3) := by decide +kernel
theorem dX4_scanNumber_65 : decode cX4_scanNumber 65 = .ok (.iconst 1, 1) := by decide +kernel
theorem dX4_scanNumber_66 : decode cX4_scanNumber 66 = .ok (.iadd, 1) := by decide +kernel
theorem dX4_scanNumber_67 : decode cX4_scanNumber 67 = .ok (.putfield 29, 3) := by decide +kernel
theorem dX4_scanNumber_70 : decode cX4_scanNumber 70 = .ok (.goto (-65), 3) := by decide +kernel
theorem dX4_scanNumber_73 : decode cX4_scanNumber 73 = .ok (.aload_n 0, 1) := by decide +kernel
theorem dX4_scanNumber_74 : decode cX4_scanNumber 74 = .ok (.getfield 9, 3) := by decide +kernel
theorem dX4_scanNumber_77 : decode cX4_scanNumber 77 = .ok (.aload_n 0, 1) := by decide +kernel
theorem dX4_scanNumber_78 : decode cX4_scanNumber 78 = .ok (.getfield 72, 3) := by decide +kernel
theorem dX4_scanNumber_81 : decode cX4_scanNumber 81 = .ok (.baload, 1) := by decide +kernel
theorem dX4_scanNumber_82 : decode cX4_scanNumber 82 = .ok (.bipush 48, 2) := by decide +kernel
theorem dX4_scanNumber_84 : decode cX4_scanNumber 84 = .ok (.if_icmp .ne 20, 3) := by decide +kernel
theorem dX4_scanNumber_87 : decode cX4_scanNumber 87 = .ok (.aload_n 0, 1) := by decide +kernel
theorem dX4_scanNumber_88 : decode cX4_scanNumber 88 = .ok (.getfield 29, 3) := by decide +kernel
theorem dX4_scanNumber_91 : decode cX4_scanNumber 91 = .ok (.aload_n 0, 1) := by decide +kernel
theorem dX4_scanNumber_92 : decode cX4_scanNumber 92 = .ok (.getfield 72, 3) := by decide +kernel
theorem dX4_scanNumber_95 : decode cX4_scanNumber 95 = .ok (.isub, 1) := by decide +kernel
theorem dX4_scanNumber_96 : decode cX4_scanNumber 96 = .ok (.iconst 1, 1) := by decide +kernel
theorem dX4_scanNumber_97 : decode cX4_scanNumber 97 = .ok (.if_icmp .le 7, 3) := by decide +kernel
theorem dX4_scanNumber_100 : decode cX4_scanNumber 100 = .ok (.iconst 1, 1) := by decide +kernel
theorem dX4_scanNumber_101 : decode cX4_scanNumber 101 = .ok (.goto 4, 3) := by decide +kernel
theorem dX4_scanNumber_104 : decode cX4_scanNumber 104 = .ok (.iconst 0, 1) := by decide +kernel
theorem dX4_scanNumber_105 : decode cX4_scanNumber 105 = .ok (.istore_n 1, 1) := by decide +kernel
theorem dX4_scanNumber_106 : decode cX4_scanNumber 106 = .ok (.aload_n 0, 1) := by decide +kernel
theorem dX4_scanNumber_107 : decode cX4_scanNumber 107 = .ok (.iload_n 1, 1) := by decide +kernel
theorem dX4_scanNumber_108 : decode cX4_scanNumber 108 = .ok (.ifCond .ne 12, 3) := by decide +kernel
theorem dX4_scanNumber_111 : decode cX4_scanNumber 111 = .ok (.aload_n 0, 1) := by decide +kernel
theorem dX4_scanNumber_112 : decode cX4_scanNumber 112 = .ok (.getfield 104, 3) := by decide +kernel
theorem dX4_scanNumber_115 : decode cX4_scanNumber 115 = .ok (.bipush 99, 2) := by decide +kernel
theorem dX4_scanNumber_117 : decode cX4_scanNumber 117 = .ok (.if_icmp .le 7, 3) := by decide +kernel
theorem dX4_scanNumber_120 : decode cX4_scanNumber 120 = .ok (.iconst 4, 1) := by decide +kernel
theorem dX4_scanNumber_121 : decode cX4_scanNumber 121 = .ok (.goto 4, 3) := by decide +kernel
theorem dX4_scanNumber_124 : decode cX4_scanNumber 124 = .ok (.iconst 2, 1) := by decide +kernel
theorem dX4_scanNumber_125 : decode cX4_scanNumber 125 = .ok (.putfield 38, 3) := by decide +kernel
theorem dX4_scanNumber_128 : decode cX4_scanNumber 128 = .ok (.return_, 1) := by decide +kernel
theorem dX4_isLetter_0 : decode cX4_isLetter 0 = .ok (.iload_n 0, 1) := by decide +kernel
theorem dX4_isLetter_1 : decode cX4_isLetter 1 = .ok (.bipush 97, 2) := by decide +kernel
theorem dX4_isLetter_3 : decode cX4_isLetter 3 = .ok (.if_icmp .lt 13, 3) := by decide +kernel
theorem dX4_isLetter_6 : decode cX4_isLetter 6 = .ok (.iload_n 0, 1) := by decide +kernel
theorem dX4_isLetter_7 : decode cX4_isLetter 7 = .ok (.bipush 122, 2) := by decide +kernel
theorem dX4_isLetter_9 : decode cX4_isLetter 9 = .ok (.if_icmp .gt 7, 3) := by decide +kernel
theorem dX4_isLetter_12 : decode cX4_isLetter 12 = .ok (.iconst 1, 1) := by decide +kernel
theorem dX4_isLetter_13 : decode cX4_isLetter 13 = .ok (.goto 4, 3) := by decide +kernel
theorem dX4_isLetter_16 : decode cX4_isLetter 16 = .ok (.iconst 0, 1) := by decide +kernel
theorem dX4_isLetter_17 : decode cX4_isLetter 17 = .ok (.ireturn, 1) := by decide +kernel
theorem dX4_isDigit_0 : decode cX4_isDigit 0 = .ok (.iload_n 0, 1) := by decide +kernel
theorem dX4_isDigit_1 : decode cX4_isDigit 1 = .ok (.bipush 48, 2) := by decide +kernel
theorem dX4_isDigit_3 : decode cX4_isDigit 3 = .ok (.if_icmp .lt 13, 3) := by decide +kernel
theorem dX4_isDigit_6 : decode cX4_isDigit 6 = .ok (.iload_n 0, 1) := by decide +kernel
theorem dX4_isDigit_7 : decode cX4_isDigit 7 = .ok (.bipush 57, 2) := by decide +kernel
theorem dX4_isDigit_9 : decode cX4_isDigit 9 = .ok (.if_icmp .gt 7, 3) := by decide +kernel
theorem dX4_isDigit_12 : decode cX4_isDigit 12 = .ok (.iconst 1, 1) := by decide +kernel
theorem dX4_isDigit_13 : decode cX4_isDigit 13 = .ok (.goto 4, 3) := by decide +kernel
theorem dX4_isDigit_16 : decode cX4_isDigit 16 = .ok (.iconst 0, 1) := by decide +kernel
theorem dX4_isDigit_17 : decode cX4_isDigit 17 = .ok (.ireturn, 1) := by decide +kernel
set_option maxRecDepth 20000 in
theorem ggX4_isWord_J0_length_8abf5 : GoodIn wsX4_isWord wsJ0_length_8abf5 := goodIn_r _ [9, 10, 11, 12, 13, 8, 14, 15, 16] (by decide +kernel) (by decide +kernel)
set_option maxRecDepth 20000 in
theorem gX4_isWord_J0_length_8abf5 : GoodIn wsX4_isWord (wsV RX4 129 RJ0 yJ0_length_8abf5 wsJ0_length_8abf5) := goodIn_app (goodIn_of _ (by decide +kernel)) ggX4_isWord_J0_length_8abf5
set_option maxRecDepth 20000 in
theorem ggX4_isWord_J0_charAt_5068e : GoodIn wsX4_isWord wsJ0_charAt_5068e := goodIn_r _ [20, 10, 21, 22, 23, 8, 24, 15, 16, 25, 26, 27, 28, 29, 30, 31, 32, 33, 34, 35, 36, 37, 38, 39, 40, 41, 42, 43, 44, 45, 46, 47, 48, 49, 50, 51, 52, 53] (by decide +kernel) (by decide +kernel)
set_option maxRecDepth 20000 in
theorem gX4_isWord_J0_charAt_5068e : GoodIn wsX4_isWord (wsV RX4 134 RJ0 yJ0_charAt_5068e wsJ0_charAt_5068e) := goodIn_app (goodIn_of _ (by decide +kernel)) ggX4_isWord_J0_charAt_5068e
theorem dX4_isWord_0 : decode cX4_isWord 0 = .ok (.aload_n 0, 1) := by decide +kernel
theorem dX4_isWord_1 : decode cX4_isWord 1 = .ok (.getfield 38, 3) := by decide +kernel
theorem dX4_isWord_4 : decode cX4_isWord 4 = .ok (.iconst 1, 1) := by decide +kernel
theorem dX4_isWord_5 : decode cX4_isWord 5 = .ok (.if_icmp .ne 19, 3) := by decide +kernel
theorem dX4_isWord_8 : decode cX4_isWord 8 = .ok (.aload_n 0, 1) := by decide +kernel
theorem dX4_isWord_9 : decode cX4_isWord 9 = .ok (.getfield 29, 3) := by decide +kernel
theorem dX4_isWord_12 : decode cX4_isWord 12 = .ok (.aload_n 0, 1) := by decide +kernel
theorem dX4_isWord_13 : decode cX4_isWord 13 = .ok (.getfield 72, 3) := by decide +kernel
theorem dX4_isWord_16 : decode cX4_isWord 16 = .ok (.isub, 1) := by decide +kernel
theorem dX4_isWord_17 : decode cX4_isWord 17 = .ok (.aload_n 1, 1) := by decide +kernel
theorem dX4_isWord_18 : decode cX4_isWord 18 = .ok (.invokevirtual 129, 3) := by decide +kernel
theorem dX4_isWord_21 : decode cX4_isWord 21 = .ok (.if_icmp .eq 5, 3) := by decide +kernel
theorem dX4_isWord_24 : decode cX4_isWord 24 = .ok (.iconst 0, 1) := by decide +kernel
theorem dX4_isWord_25 : decode cX4_isWord 25 = .ok (.ireturn, 1) := by decide +kernel
theorem dX4_isWord_26 : decode cX4_isWord 26 = .ok (.iconst 0, 1) := by decide +kernel
theorem dX4_isWord_27 : decode cX4_isWord 27 = .ok (.istore_n 2, 1) := by decide +kernel
theorem dX4_isWord_28 : decode cX4_isWord 28 = .ok (.iload_n 2, 1) := by decide +kernel
theorem dX4_isWord_29 : decode cX4_isWord 29 = .ok (.aload_n 1, 1) := by decide +kernel
theorem dX4_isWord_30 : decode cX4_isWord 30 = .ok (.invokevirtual 129, 3) := by decide +kernel
theorem dX4_isWord_33 : decode cX4_isWord 33 = .ok (.if_icmp .ge 30, 3) := by decide +kernel
theorem dX4_isWord_36 : decode cX4_isWord 36 = .ok (.aload_n 0, 1) := by decide +kernel
theorem dX4_isWord_37 : decode cX4_isWord 37 = .ok (.getfield 9, 3) := by decide +kernel
theorem dX4_isWord_40 : decode cX4_isWord 40 = .ok (.aload_n 0, 1) := by decide +kernel
theorem dX4_isWord_41 : decode cX4_isWord 41 = .ok (.getfield 72, 3) := by decide +kernel
theorem dX4_isWord_44 : decode cX4_isWord 44 = .ok (.iload_n 2, 1) := by decide +kernel
theorem dX4_isWord_45 : decode cX4_isWord 45 = .ok (.iadd, 1) := by decide +kernel
theorem dX4_isWord_46 : decode cX4_isWord 46 = .ok (.baload, 1) := by decide +kernel
theorem dX4_isWord_47 : decode cX4_isWord 47 = .ok (.aload_n 1, 1) := by decide +kernel
theorem dX4_isWord_48 : decode cX4_isWord 48 = .ok (.iload_n 2, 1) := by decide +kernel
theorem dX4_isWord_49 : decode cX4_isWord 49 = .ok (.invokevirtual 134, 3) := by decide +kernel
theorem dX4_isWord_52 : decode cX4_isWord 52 = .ok (.if_icmp .eq 5, 3) := by decide +kernel
theorem dX4_isWord_55 : decode cX4_isWord 55 = .ok (.iconst 0, 1) := by decide +kernel
theorem dX4_isWord_56 : decode cX4_isWord 56 = .ok (.ireturn, 1) := by decide +kernel
theorem dX4_isWord_57 : decode cX4_isWord 57 = .ok (.iinc 2 1, 3) := by decide +kernel
theorem dX4_isWord_60 : decode cX4_isWord 60 = .ok (.goto (-32), 3) := by decide +kernel
theorem dX4_isWord_63 : decode cX4_isWord 63 = .ok (.iconst 1, 1) := by decide +kernel
theorem dX4_isWord_64 : decode cX4_isWord 64 = .ok (.ireturn, 1) := by decide +kernel
theorem dX5_init_0 : decode cX5_init 0 = .ok (.aload_n 0, 1) := by decide +kernel
theorem dX5_init_1 : decode cX5_init 1 = .ok (.invokespecial 3, 3) := by decide +kernel
theorem dX5_init_4 : decode cX5_init 4 = .ok (.aload_n 0, 1) := by decide +kernel
theorem dX5_init_5 : decode cX5_init 5 = .ok (.bipush 6, 2) := by decide +kernel
theorem dX5_init_7 : decode cX5_init 7 = .ok (.newarray .int, 2) := by decide +kernel
theorem dX5_init_9 : decode cX5_init 9 = .ok (.putfield 9, 3) := by decide +kernel
theorem dX5_init_12 : decode cX5_init 12 = .ok (.aload_n 0, 1) := by decide +kernel
theorem dX5_init_13 : decode cX5_init 13 = .ok (.bipush 6, 2) := by decide +kernel
theorem dX5_init_15 : decode cX5_init 15 = .ok (.newarray .boolean, 2) := by decide +kernel
theorem dX5_init_17 : decode cX5_init 17 = .ok (.putfield 15, 3) := by decide +kernel
theorem dX5_init_20 : decode cX5_init 20 = .ok (.aload_n 0, 1) := by decide +kernel
theorem dX5_init_21 : decode cX5_init 21 = .ok (.bipush 6, 2) := by decide +kernel
theorem dX5_init_23 : decode cX5_init 23 = .ok (.newarray .int, 2) := by decide +kernel
theorem dX5_init_25 : decode cX5_init 25 = .ok (.putfield 19, 3) := by decide +kernel
theorem dX5_init_28 : decode cX5_init 28 = .ok (.aload_n 0, 1) := by decide +kernel
theorem dX5_init_29 : decode cX5_init 29 = .ok (.aload_n 1, 1) := by decide +kernel
theorem dX5_init_30 : decode cX5_init 30 = .ok (.putfield 22, 3) := by decide +kernel
theorem dX5_init_33 : decode cX5_init 33 = .ok (.aload_n 0, 1) := by decide +kernel
theorem dX5_init_34 : decode cX5_init 34 = .ok (.aload_n 2, 1) := by decide +kernel
theorem dX5_init_35 : decode cX5_init 35 = .ok (.putfield 26, 3) := by decide +kernel
theorem dX5_init_38 : decode cX5_init 38 = .ok (.return_, 1) := by decide +kernel
set_option maxRecDepth 20000 in
theorem ggX5_search_X3_onLine : GoodIn wsX5_search wsX3_onLine := goodIn_r _ [11, 12, 13, 14, 15, 16, 10, 17, 18, 19, 20, 21, 22, 65, 66, 67, 68, 69, 70, 71, 72, 73, 74, 75, 76, 77, 78, 79, 80] (by decide +kernel) (by decide +kernel)
set_option maxRecDepth 20000 in
theorem gX5_search_X3_onLine : GoodIn wsX5_search (wsV RX5 34 RX3 yX3_onLine wsX3_onLine) := goodIn_app (goodIn_of _ (by decide +kernel)) ggX5_search_X3_onLine
set_option maxRecDepth 20000 in
theorem ggX5_search_X3_allWater : GoodIn wsX5_search wsX3_allWater := goodIn_r _ [26, 12, 13, 27, 65, 66, 67, 68, 69, 70, 71, 72, 73, 74, 75, 76, 77, 78, 79, 80] (by decide +kernel) (by decide +kernel)
set_option maxRecDepth 20000 in
theorem gX5_search_X3_allWater : GoodIn wsX5_search (wsV RX5 47 RX3 yX3_allWater wsX3_allWater) := goodIn_app (goodIn_of _ (by decide +kernel)) ggX5_search_X3_allWater
set_option maxRecDepth 20000 in
theorem ggX5_search_X5_tryFrom : GoodIn wsX5_search wsX5_tryFrom := goodIn_r _ [31, 3, 32, 33, 2, 6, 34, 1, 35, 36, 37, 38, 30, 39, 5, 40, 41, 42, 43, 44, 45, 15, 16, 10, 17, 18, 12, 19, 20, 21, 22, 46, 47, 48, 49, 50, 51, 52, 53, 54, 55, 56, 28, 29, 57, 58, 59, 60, 61, 62, 63, 64, 72, 73, 74, 75, 76, 77, 78, 79, 80, 65, 66, 67, 68, 69, 70, 71] (by decide +kernel) (by decide +kernel)
set_option maxRecDepth 20000 in
theorem gX5_search_X5_tryFrom : GoodIn wsX5_search (va_wsS RX5 50 yX5_tryFrom wsX5_tryFrom) := goodIn_app (goodIn_of _ (by decide +kernel)) ggX5_search_X5_tryFrom
theorem dX5_search_0 : decode cX5_search 0 = .ok (.aload_n 0, 1) := by decide +kernel
theorem dX5_search_1 : decode cX5_search 1 = .ok (.iload_n 1, 1) := by decide +kernel
theorem dX5_search_2 : decode cX5_search 2 = .ok (.putfield 30, 3) := by decide +kernel
theorem dX5_search_5 : decode cX5_search 5 = .ok (.aload_n 0, 1) := by decide +kernel
theorem dX5_search_6 : decode cX5_search 6 = .ok (.aload_n 0, 1) := by decide +kernel
theorem dX5_search_7 : decode cX5_search 7 = .ok (.getfield 26, 3) := by decide +kernel
theorem dX5_search_10 : decode cX5_search 10 = .ok (.invokevirtual 34, 3) := by decide +kernel
theorem dX5_search_13 : decode cX5_search 13 = .ok (.putfield 40, 3) := by decide +kernel
theorem dX5_search_16 : decode cX5_search 16 = .ok (.aload_n 0, 1) := by decide +kernel
theorem dX5_search_17 : decode cX5_search 17 = .ok (.ldc 43, 2) := by decide +kernel
theorem dX5_search_19 : decode cX5_search 19 = .ok (.putfield 44, 3) := by decide +kernel
theorem dX5_search_22 : decode cX5_search 22 = .ok (.iconst 0, 1) := by decide +kernel
theorem dX5_search_23 : decode cX5_search 23 = .ok (.istore_n 2, 1) := by decide +kernel
theorem dX5_search_24 : decode cX5_search 24 = .ok (.iload_n 2, 1) := by decide +kernel
theorem dX5_search_25 : decode cX5_search 25 = .ok (.bipush 6, 2) := by decide +kernel
theorem dX5_search_27 : decode cX5_search 27 = .ok (.if_icmp .ge 16, 3) := by decide +kernel
theorem dX5_search_30 : decode cX5_search 30 = .ok (.aload_n 0, 1) := by decide +kernel
theorem dX5_search_31 : decode cX5_search 31 = .ok (.getfield 15, 3) := by decide +kernel
theorem dX5_search_34 : decode cX5_search 34 = .ok (.iload_n 2, 1) := by decide +kernel
theorem dX5_search_35 : decode cX5_search 35 = .ok (.iconst 0, 1) := by decide +kernel
theorem dX5_search_36 : decode cX5_search 36 = .ok (.bastore, 1) := by decide +kernel
theorem dX5_search_37 : decode cX5_search 37 = .ok (.iinc 2 1, 3) := by decide +kernel
theorem dX5_search_40 : decode cX5_search 40 = .ok (.goto (-16), 3) := by decide +kernel
theorem dX5_search_43 : decode cX5_search 43 = .ok (.aload_n 0, 1) := by decide +kernel
theorem dX5_search_44 : decode cX5_search 44 = .ok (.iconst 0, 1) := by decide +kernel
theorem dX5_search_45 : decode cX5_search 45 = .ok (.aload_n 0, 1) := by decide +kernel
theorem dX5_search_46 : decode cX5_search 46 = .ok (.getfield 26, 3) := by decide +kernel
theorem dX5_search_49 : decode cX5_search 49 = .ok (.invokevirtual 47, 3) := by decide +kernel
theorem dX5_search_52 : decode cX5_search 52 = .ok (.invokestatic 50, 3) := by decide +kernel
theorem dX5_search_55 : decode cX5_search 55 = .ok (.return_, 1) := by decide +kernel
set_option maxRecDepth 20000 in
theorem ggX5_tryFrom_X5_weigh : GoodIn wsX5_tryFrom wsX5_weigh := goodIn_r _ [13, 14, 8, 15, 16, 17, 18, 19, 44, 45, 46, 47, 48, 49, 50, 51] (by decide +kernel) (by decide +kernel)
set_option maxRecDepth 20000 in
theorem gX5_tryFrom_X5_weigh : GoodIn wsX5_tryFrom (wsV RX5 54 RX5 yX5_weigh wsX5_weigh) := goodIn_app (goodIn_of _ (by decide +kernel)) ggX5_tryFrom_X5_weigh
set_option maxRecDepth 20000 in
theorem ggX5_tryFrom_X3_hangs : GoodIn wsX5_tryFrom wsX3_hangs := goodIn_r _ [24, 25, 26, 27, 28, 29, 30, 61, 62, 63, 64, 65, 66, 67, 52, 53, 54, 55, 56, 57, 58, 59, 60] (by decide +kernel) (by decide +kernel)
set_option maxRecDepth 20000 in
theorem gX5_tryFrom_X3_hangs : GoodIn wsX5_tryFrom (wsV RX5 63 RX3 yX3_hangs wsX3_hangs) := goodIn_app (goodIn_of _ (by decide +kernel)) ggX5_tryFrom_X3_hangs
set_option maxRecDepth 20000 in
theorem ggX5_tryFrom_X6_soaked : GoodIn wsX5_tryFrom wsX6_soaked := goodIn_r _ [35, 36, 37, 38, 39, 40, 41, 52, 53, 54, 55, 56, 57, 58, 59, 60] (by decide +kernel) (by decide +kernel)
set_option maxRecDepth 20000 in
theorem gX5_tryFrom_X6_soaked : GoodIn wsX5_tryFrom (wsV RX5 70 RX6 yX6_soaked wsX6_soaked) := goodIn_app (goodIn_of _ (by decide +kernel)) ggX5_tryFrom_X6_soaked
set_option maxRecDepth 20000 in
theorem ggX5_tryFrom_X5_tryFrom : GoodIn wsX5_tryFrom wsX5_tryFrom := goodIn_r _ [0, 1, 2, 3, 4, 5, 6, 7, 8, 9, 10, 11, 12, 13, 14, 15, 16, 17, 18, 19, 20, 21, 22, 23, 24, 25, 26, 27, 28, 29, 30, 31, 32, 33, 34, 35, 36, 37, 38, 39, 40, 41, 42, 43, 44, 45, 46, 47, 48, 49, 50, 51, 52, 53, 54, 55, 56, 57, 58, 59, 60, 61, 62, 63, 64, 65, 66, 67] (by decide +kernel) (by decide +kernel)
set_option maxRecDepth 20000 in
theorem gX5_tryFrom_X5_tryFrom : GoodIn wsX5_tryFrom (va_wsS RX5 50 yX5_tryFrom wsX5_tryFrom) := goodIn_app (goodIn_of _ (by decide +kernel)) ggX5_tryFrom_X5_tryFrom
theorem dX5_tryFrom_0 : decode cX5_tryFrom 0 = .ok (.iload_n 1, 1) := by decide +kernel
theorem dX5_tryFrom_1 : decode cX5_tryFrom 1 = .ok (.aload_n 0, 1) := by decide +kernel
theorem dX5_tryFrom_2 : decode cX5_tryFrom 2 = .ok (.getfield 40, 3) := by decide +kernel
theorem dX5_tryFrom_5 : decode cX5_tryFrom 5 = .ok (.if_icmp .lt 9, 3) := by decide +kernel
theorem dX5_tryFrom_8 : decode cX5_tryFrom 8 = .ok (.aload_n 0, 1) := by decide +kernel
theorem dX5_tryFrom_9 : decode cX5_tryFrom 9 = .ok (.iload_n 2, 1) := by decide +kernel
theorem dX5_tryFrom_10 : decode cX5_tryFrom 10 = .ok (.invokevirtual 54, 3) := by decide +kernel
theorem dX5_tryFrom_13 : decode cX5_tryFrom 13 = .ok (.return_, 1) := by decide +kernel
theorem dX5_tryFrom_14 : decode cX5_tryFrom 14 = .ok (.iconst 0, 1) := by decide +kernel
theorem dX5_tryFrom_15 : decode cX5_tryFrom 15 = .ok (.istore_n 3, 1) := by decide +kernel
theorem dX5_tryFrom_16 : decode cX5_tryFrom 16 = .ok (.iload_n 3, 1) := by decide +kernel
theorem dX5_tryFrom_17 : decode cX5_tryFrom 17 = .ok (.aload_n 0, 1) := by decide +kernel
theorem dX5_tryFrom_18 : decode cX5_tryFrom 18 = .ok (.getfield 22, 3) := by decide +kernel
theorem dX5_tryFrom_21 : decode cX5_tryFrom 21 = .ok (.getfield 58, 3) := by decide +kernel
theorem dX5_tryFrom_24 : decode cX5_tryFrom 24 = .ok (.if_icmp .ge 92, 3) := by decide +kernel
theorem dX5_tryFrom_27 : decode cX5_tryFrom 27 = .ok (.aload_n 0, 1) := by decide +kernel
theorem dX5_tryFrom_28 : decode cX5_tryFrom 28 = .ok (.getfield 26, 3) := by decide +kernel
theorem dX5_tryFrom_31 : decode cX5_tryFrom 31 = .ok (.iload_n 3, 1) := by decide +kernel
theorem dX5_tryFrom_32 : decode cX5_tryFrom 32 = .ok (.invokevirtual 63, 3) := by decide +kernel
theorem dX5_tryFrom_35 : decode cX5_tryFrom 35 = .ok (.ifCond .eq 75, 3) := by decide +kernel
theorem dX5_tryFrom_38 : decode cX5_tryFrom 38 = .ok (.aload_n 0, 1) := by decide +kernel
theorem dX5_tryFrom_39 : decode cX5_tryFrom 39 = .ok (.getfield 15, 3) := by decide +kernel
theorem dX5_tryFrom_42 : decode cX5_tryFrom 42 = .ok (.iload_n 3, 1) := by decide +kernel
theorem dX5_tryFrom_43 : decode cX5_tryFrom 43 = .ok (.baload, 1) := by decide +kernel
theorem dX5_tryFrom_44 : decode cX5_tryFrom 44 = .ok (.ifCond .ne 66, 3) := by decide +kernel
theorem dX5_tryFrom_47 : decode cX5_tryFrom 47 = .ok (.aload_n 0, 1) := by decide +kernel
theorem dX5_tryFrom_48 : decode cX5_tryFrom 48 = .ok (.getfield 26, 3) := by decide +kernel
theorem dX5_tryFrom_51 : decode cX5_tryFrom 51 = .ok (.getfield 67, 3) := by decide +kernel
theorem dX5_tryFrom_54 : decode cX5_tryFrom 54 = .ok (.iload_n 3, 1) := by decide +kernel
theorem dX5_tryFrom_55 : decode cX5_tryFrom 55 = .ok (.iaload, 1) := by decide +kernel
theorem dX5_tryFrom_56 : decode cX5_tryFrom 56 = .ok (.istore 4, 2) := by decide +kernel
theorem dX5_tryFrom_58 : decode cX5_tryFrom 58 = .ok (.aload_n 0, 1) := by decide +kernel
theorem dX5_tryFrom_59 : decode cX5_tryFrom 59 = .ok (.getfield 22, 3) := by decide +kernel
theorem dX5_tryFrom_62 : decode cX5_tryFrom 62 = .ok (.iload_n 3, 1) := by decide +kernel
theorem dX5_tryFrom_63 : decode cX5_tryFrom 63 = .ok (.iload 4, 2) := by decide +kernel
theorem dX5_tryFrom_65 : decode cX5_tryFrom 65 = .ok (.aload_n 0, 1) := by decide +kernel
theorem dX5_tryFrom_66 : decode cX5_tryFrom 66 = .ok (.getfield 30, 3) := by decide +kernel
theorem dX5_tryFrom_69 : decode cX5_tryFrom 69 = .ok (.iload_n 1, 1) := by decide +kernel
theorem dX5_tryFrom_70 : decode cX5_tryFrom 70 = .ok (.invokevirtual 70, 3) := by decide +kernel
theorem dX5_tryFrom_73 : decode cX5_tryFrom 73 = .ok (.istore 5, 2) := by decide +kernel
theorem dX5_tryFrom_75 : decode cX5_tryFrom 75 = .ok (.aload_n 0, 1) := by decide +kernel
theorem dX5_tryFrom_76 : decode cX5_tryFrom 76 = .ok (.getfield 9, 3) := by decide +kernel
theorem dX5_tryFrom_79 : decode cX5_tryFrom 79 = .ok (.iload_n 1, 1) := by decide +kernel
theorem dX5_tryFrom_80 : decode cX5_tryFrom 80 = .ok (.iload_n 3, 1) := by decide +kernel
theorem dX5_tryFrom_81 : decode cX5_tryFrom 81 = .ok (.iastore, 1) := by decide +kernel
theorem dX5_tryFrom_82 : decode cX5_tryFrom 82 = .ok (.aload_n 0, 1) := by decide +kernel
theorem dX5_tryFrom_83 : decode cX5_tryFrom 83 = .ok (.getfield 15, 3) := by decide +kernel
theorem dX5_tryFrom_86 : decode cX5_tryFrom 86 = .ok (.iload_n 3, 1) := by decide +kernel
theorem dX5_tryFrom_87 : decode cX5_tryFrom 87 = .ok (.iconst 1, 1) := by decide +kernel
theorem dX5_tryFrom_88 : decode cX5_tryFrom 88 = .ok (.bastore, 1) := by decide +kernel
theorem dX5_tryFrom_89 : decode cX5_tryFrom 89 = .ok (.aload_n 0, 1) := by decide +kernel
theorem dX5_tryFrom_90 : decode cX5_tryFrom 90 = .ok (.iload_n 1, 1) := by decide +kernel
theorem dX5_tryFrom_91 : decode cX5_tryFrom 91 = .ok (.iconst 1, 1) := by decide +kernel
theorem dX5_tryFrom_92 : decode cX5_tryFrom 92 = .ok (.iadd, 1) := by decide +kernel
theorem dX5_tryFrom_93 : decode cX5_tryFrom 93 = .ok (.iload_n 2, 1) := by decide +kernel
theorem dX5_tryFrom_94 : decode cX5_tryFrom 94 = .ok (.iload 5, 2) := by decide +kernel
theorem dX5_tryFrom_96 : decode cX5_tryFrom 96 = .ok (.iadd, 1) := by decide +kernel
theorem dX5_tryFrom_97 : decode cX5_tryFrom 97 = .ok (.iload 4, 2) := by decide +kernel
theorem dX5_tryFrom_99 : decode cX5_tryFrom 99 = .ok (.isub, 1) := by decide +kernel
theorem dX5_tryFrom_100 : decode cX5_tryFrom 100 = .ok (.invokestatic 50, 3) := by decide +kernel
theorem dX5_tryFrom_103 : decode cX5_tryFrom 103 = .ok (.aload_n 0, 1) := by decide +kernel
theorem dX5_tryFrom_104 : decode cX5_tryFrom 104 = .ok (.getfield 15, 3) := by decide +kernel
theorem dX5_tryFrom_107 : decode cX5_tryFrom 107 = .ok (.iload_n 3, 1) := by decide +kernel
theorem dX5_tryFrom_108 : decode cX5_tryFrom 108 = .ok (.iconst 0, 1) := by decide +kernel
theorem dX5_tryFrom_109 : decode cX5_tryFrom 109 = .ok (.bastore, 1) := by decide +kernel
theorem dX5_tryFrom_110 : decode cX5_tryFrom 110 = .ok (.iinc 3 1, 3) := by decide +kernel
theorem dX5_tryFrom_113 : decode cX5_tryFrom 113 = .ok (.goto (-97), 3) := by decide +kernel
theorem dX5_tryFrom_116 : decode cX5_tryFrom 116 = .ok (.return_, 1) := by decide +kernel
theorem dX5_weigh_0 : decode cX5_weigh 0 = .ok (.iload_n 1, 1) := by decide +kernel
theorem dX5_weigh_1 : decode cX5_weigh 1 = .ok (.aload_n 0, 1) := by decide +kernel
theorem dX5_weigh_2 : decode cX5_weigh 2 = .ok (.getfield 44, 3) := by decide +kernel
theorem dX5_weigh_5 : decode cX5_weigh 5 = .ok (.if_icmp .ge 23, 3) := by decide +kernel
theorem dX5_weigh_8 : decode cX5_weigh 8 = .ok (.aload_n 0, 1) := by decide +kernel
theorem dX5_weigh_9 : decode cX5_weigh 9 = .ok (.iload_n 1, 1) := by decide +kernel
theorem dX5_weigh_10 : decode cX5_weigh 10 = .ok (.putfield 44, 3) := by decide +kernel
theorem dX5_weigh_13 : decode cX5_weigh 13 = .ok (.aload_n 0, 1) := by decide +kernel
theorem dX5_weigh_14 : decode cX5_weigh 14 = .ok (.getfield 9, 3) := by decide +kernel
theorem dX5_weigh_17 : decode cX5_weigh 17 = .ok (.iconst 0, 1) := by decide +kernel
theorem dX5_weigh_18 : decode cX5_weigh 18 = .ok (.aload_n 0, 1) := by decide +kernel
theorem dX5_weigh_19 : decode cX5_weigh 19 = .ok (.getfield 19, 3) := by decide +kernel
theorem dX5_weigh_22 : decode cX5_weigh 22 = .ok (.iconst 0, 1) := by decide +kernel
theorem dX5_weigh_23 : decode cX5_weigh 23 = .ok (.bipush 6, 2) := by decide +kernel
theorem dX5_weigh_25 : decode cX5_weigh 25 = .ok (.invokestatic 74, 3) := by decide +kernel
theorem dX5_weigh_28 : decode cX5_weigh 28 = .ok (.return_, 1) := by decide +kernel
theorem dX6_init_0 : decode cX6_init 0 = .ok (.aload_n 0, 1) := by decide +kernel
theorem dX6_init_1 : decode cX6_init 1 = .ok (.invokespecial 3, 3) := by decide +kernel
theorem dX6_init_4 : decode cX6_init 4 = .ok (.aload_n 0, 1) := by decide +kernel
theorem dX6_init_5 : decode cX6_init 5 = .ok (.bipush 6, 2) := by decide +kernel
theorem dX6_init_7 : decode cX6_init 7 = .ok (.newarray .int, 2) := by decide +kernel
theorem dX6_init_9 : decode cX6_init 9 = .ok (.putfield 9, 3) := by decide +kernel
theorem dX6_init_12 : decode cX6_init 12 = .ok (.aload_n 0, 1) := by decide +kernel
theorem dX6_init_13 : decode cX6_init 13 = .ok (.bipush 6, 2) := by decide +kernel
theorem dX6_init_15 : decode cX6_init 15 = .ok (.newarray .int, 2) := by decide +kernel
theorem dX6_init_17 : decode cX6_init 17 = .ok (.putfield 15, 3) := by decide +kernel
theorem dX6_init_20 : decode cX6_init 20 = .ok (.aload_n 0, 1) := by decide +kernel
theorem dX6_init_21 : decode cX6_init 21 = .ok (.bipush 6, 2) := by decide +kernel
theorem dX6_init_23 : decode cX6_init 23 = .ok (.newarray .int, 2) := by decide +kernel
theorem dX6_init_25 : decode cX6_init 25 = .ok (.putfield 18, 3) := by decide +kernel
theorem dX6_init_28 : decode cX6_init 28 = .ok (.aload_n 0, 1) := by decide +kernel
theorem dX6_init_29 : decode cX6_init 29 = .ok (.iconst 5, 1) := by decide +kernel
theorem dX6_init_30 : decode cX6_init 30 = .ok (.newarray .int, 2) := by decide +kernel
theorem dX6_init_32 : decode cX6_init 32 = .ok (.putfield 21, 3) := by decide +kernel
theorem dX6_init_35 : decode cX6_init 35 = .ok (.aload_n 0, 1) := by decide +kernel
theorem dX6_init_36 : decode cX6_init 36 = .ok (.iconst 5, 1) := by decide +kernel
theorem dX6_init_37 : decode cX6_init 37 = .ok (.newarray .int, 2) := by decide +kernel
theorem dX6_init_39 : decode cX6_init 39 = .ok (.putfield 24, 3) := by decide +kernel
theorem dX6_init_42 : decode cX6_init 42 = .ok (.aload_n 0, 1) := by decide +kernel
theorem dX6_init_43 : decode cX6_init 43 = .ok (.bipush 24, 2) := by decide +kernel
theorem dX6_init_45 : decode cX6_init 45 = .ok (.newarray .int, 2) := by decide +kernel
theorem dX6_init_47 : decode cX6_init 47 = .ok (.putfield 27, 3) := by decide +kernel
theorem dX6_init_50 : decode cX6_init 50 = .ok (.return_, 1) := by decide +kernel
theorem dX6_forget_0 : decode cX6_forget 0 = .ok (.aload_n 0, 1) := by decide +kernel
theorem dX6_forget_1 : decode cX6_forget 1 = .ok (.iconst 0, 1) := by decide +kernel
theorem dX6_forget_2 : decode cX6_forget 2 = .ok (.putfield 30, 3) := by decide +kernel
theorem dX6_forget_5 : decode cX6_forget 5 = .ok (.aload_n 0, 1) := by decide +kernel
theorem dX6_forget_6 : decode cX6_forget 6 = .ok (.iconst 0, 1) := by decide +kernel
theorem dX6_forget_7 : decode cX6_forget 7 = .ok (.putfield 34, 3) := by decide +kernel
theorem dX6_forget_10 : decode cX6_forget 10 = .ok (.aload_n 0, 1) := by decide +kernel
theorem dX6_forget_11 : decode cX6_forget 11 = .ok (.iconst 0, 1) := by decide +kernel
theorem dX6_forget_12 : decode cX6_forget 12 = .ok (.putfield 37, 3) := by decide +kernel
theorem dX6_forget_15 : decode cX6_forget 15 = .ok (.return_, 1) := by decide +kernel
theorem dX6_copy_0 : decode cX6_copy 0 = .ok (.aload_n 0, 1) := by decide +kernel
theorem dX6_copy_1 : decode cX6_copy 1 = .ok (.aload_n 1, 1) := by decide +kernel
theorem dX6_copy_2 : decode cX6_copy 2 = .ok (.getfield 30, 3) := by decide +kernel
theorem dX6_copy_5 : decode cX6_copy 5 = .ok (.putfield 30, 3) := by decide +kernel
theorem dX6_copy_8 : decode cX6_copy 8 = .ok (.aload_n 0, 1) := by decide +kernel
theorem dX6_copy_9 : decode cX6_copy 9 = .ok (.aload_n 1, 1) := by decide +kernel
theorem dX6_copy_10 : decode cX6_copy 10 = .ok (.getfield 34, 3) := by decide +kernel
theorem dX6_copy_13 : decode cX6_copy 13 = .ok (.putfield 34, 3) := by decide +kernel
theorem dX6_copy_16 : decode cX6_copy 16 = .ok (.aload_n 0, 1) := by decide +kernel
theorem dX6_copy_17 : decode cX6_copy 17 = .ok (.aload_n 1, 1) := by decide +kernel
theorem dX6_copy_18 : decode cX6_copy 18 = .ok (.getfield 37, 3) := by decide +kernel
theorem dX6_copy_21 : decode cX6_copy 21 = .ok (.putfield 37, 3) := by decide +kernel
theorem dX6_copy_24 : decode cX6_copy 24 = .ok (.aload_n 1, 1) := by decide +kernel
theorem dX6_copy_25 : decode cX6_copy 25 = .ok (.getfield 9, 3) := by decide +kernel
theorem dX6_copy_28 : decode cX6_copy 28 = .ok (.iconst 0, 1) := by decide +kernel
theorem dX6_copy_29 : decode cX6_copy 29 = .ok (.aload_n 0, 1) := by decide +kernel
theorem dX6_copy_30 : decode cX6_copy 30 = .ok (.getfield 9, 3) := by decide +kernel
theorem dX6_copy_33 : decode cX6_copy 33 = .ok (.iconst 0, 1) := by decide +kernel
theorem dX6_copy_34 : decode cX6_copy 34 = .ok (.bipush 6, 2) := by decide +kernel
theorem dX6_copy_36 : decode cX6_copy 36 = .ok (.invokestatic 40, 3) := by decide +kernel
theorem dX6_copy_39 : decode cX6_copy 39 = .ok (.aload_n 1, 1) := by decide +kernel
theorem dX6_copy_40 : decode cX6_copy 40 = .ok (.getfield 15, 3) := by decide +kernel
theorem dX6_copy_43 : decode cX6_copy 43 = .ok (.iconst 0, 1) := by decide +kernel
theorem dX6_copy_44 : decode cX6_copy 44 = .ok (.aload_n 0, 1) := by decide +kernel
theorem dX6_copy_45 : decode cX6_copy 45 = .ok (.getfield 15, 3) := by decide +kernel
theorem dX6_copy_48 : decode cX6_copy 48 = .ok (.iconst 0, 1) := by decide +kernel
theorem dX6_copy_49 : decode cX6_copy 49 = .ok (.bipush 6, 2) := by decide +kernel
theorem dX6_copy_51 : decode cX6_copy 51 = .ok (.invokestatic 40, 3) := by decide +kernel
theorem dX6_copy_54 : decode cX6_copy 54 = .ok (.aload_n 1, 1) := by decide +kernel
theorem dX6_copy_55 : decode cX6_copy 55 = .ok (.getfield 18, 3) := by decide +kernel
theorem dX6_copy_58 : decode cX6_copy 58 = .ok (.iconst 0, 1) := by decide +kernel
theorem dX6_copy_59 : decode cX6_copy 59 = .ok (.aload_n 0, 1) := by decide +kernel
theorem dX6_copy_60 : decode cX6_copy 60 = .ok (.getfield 18, 3) := by decide +kernel
theorem dX6_copy_63 : decode cX6_copy 63 = .ok (.iconst 0, 1) := by decide +kernel
theorem dX6_copy_64 : decode cX6_copy 64 = .ok (.bipush 6, 2) := by decide +kernel
theorem dX6_copy_66 : decode cX6_copy 66 = .ok (.invokestatic 40, 3) := by decide +kernel
theorem dX6_copy_69 : decode cX6_copy 69 = .ok (.aload_n 1, 1) := by decide +kernel
theorem dX6_copy_70 : decode cX6_copy 70 = .ok (.getfield 21, 3) := by decide +kernel
theorem dX6_copy_73 : decode cX6_copy 73 = .ok (.iconst 0, 1) := by decide +kernel
theorem dX6_copy_74 : decode cX6_copy 74 = .ok (.aload_n 0, 1) := by decide +kernel
theorem dX6_copy_75 : decode cX6_copy 75 = .ok (.getfield 21, 3) := by decide +kernel
theorem dX6_copy_78 : decode cX6_copy 78 = .ok (.iconst 0, 1) := by decide +kernel
theorem dX6_copy_79 : decode cX6_copy 79 = .ok (.iconst 5, 1) := by decide +kernel
theorem dX6_copy_80 : decode cX6_copy 80 = .ok (.invokestatic 40, 3) := by decide +kernel
theorem dX6_copy_83 : decode cX6_copy 83 = .ok (.aload_n 1, 1) := by decide +kernel
theorem dX6_copy_84 : decode cX6_copy 84 = .ok (.getfield 24, 3) := by decide +kernel
theorem dX6_copy_87 : decode cX6_copy 87 = .ok (.iconst 0, 1) := by decide +kernel
theorem dX6_copy_88 : decode cX6_copy 88 = .ok (.aload_n 0, 1) := by decide +kernel
theorem dX6_copy_89 : decode cX6_copy 89 = .ok (.getfield 24, 3) := by decide +kernel
theorem dX6_copy_92 : decode cX6_copy 92 = .ok (.iconst 0, 1) := by decide +kernel
theorem dX6_copy_93 : decode cX6_copy 93 = .ok (.iconst 5, 1) := by decide +kernel
theorem dX6_copy_94 : decode cX6_copy 94 = .ok (.invokestatic 40, 3) := by decide +kernel
theorem dX6_copy_97 : decode cX6_copy 97 = .ok (.aload_n 1, 1) := by decide +kernel
theorem dX6_copy_98 : decode cX6_copy 98 = .ok (.getfield 27, 3) := by decide +kernel
theorem dX6_copy_101 : decode cX6_copy 101 = .ok (.iconst 0, 1) := by decide +kernel
theorem dX6_copy_102 : decode cX6_copy 102 = .ok (.aload_n 0, 1) := by decide +kernel
theorem dX6_copy_103 : decode cX6_copy 103 = .ok (.getfield 27, 3) := by decide +kernel
theorem dX6_copy_106 : decode cX6_copy 106 = .ok (.iconst 0, 1) := by decide +kernel
theorem dX6_copy_107 : decode cX6_copy 107 = .ok (.bipush 24, 2) := by decide +kernel
theorem dX6_copy_109 : decode cX6_copy 109 = .ok (.invokestatic 40, 3) := by decide +kernel
theorem dX6_copy_112 : decode cX6_copy 112 = .ok (.return_, 1) := by decide +kernel
set_option maxRecDepth 20000 in
theorem ggX6_skyIn_X7_within : GoodIn wsX6_skyIn wsX7_within := goodIn_r _ [5] (by decide +kernel) (by decide +kernel)
set_option maxRecDepth 20000 in
theorem gX6_skyIn_X7_within_n46 : GoodIn wsX6_skyIn (wsX7_within) := ggX6_skyIn_X7_within
theorem dX6_skyIn_0 : decode cX6_skyIn 0 = .ok (.iload_n 1, 1) := by decide +kernel
theorem dX6_skyIn_1 : decode cX6_skyIn 1 = .ok (.iconst 0, 1) := by decide +kernel
theorem dX6_skyIn_2 : decode cX6_skyIn 2 = .ok (.aload_n 0, 1) := by decide +kernel
theorem dX6_skyIn_3 : decode cX6_skyIn 3 = .ok (.getfield 37, 3) := by decide +kernel
theorem dX6_skyIn_6 : decode cX6_skyIn 6 = .ok (.iconst 1, 1) := by decide +kernel
theorem dX6_skyIn_7 : decode cX6_skyIn 7 = .ok (.isub, 1) := by decide +kernel
theorem dX6_skyIn_8 : decode cX6_skyIn 8 = .ok (.invokestatic 46, 3) := by decide +kernel
theorem dX6_skyIn_11 : decode cX6_skyIn 11 = .ok (.ifCond .eq 12, 3) := by decide +kernel
theorem dX6_skyIn_14 : decode cX6_skyIn 14 = .ok (.aload_n 0, 1) := by decide +kernel
theorem dX6_skyIn_15 : decode cX6_skyIn 15 = .ok (.getfield 27, 3) := by decide +kernel
theorem dX6_skyIn_18 : decode cX6_skyIn 18 = .ok (.iload_n 1, 1) := by decide +kernel
theorem dX6_skyIn_19 : decode cX6_skyIn 19 = .ok (.iaload, 1) := by decide +kernel
theorem dX6_skyIn_20 : decode cX6_skyIn 20 = .ok (.goto 4, 3) := by decide +kernel
theorem dX6_skyIn_23 : decode cX6_skyIn 23 = .ok (.iconst 0, 1) := by decide +kernel
theorem dX6_skyIn_24 : decode cX6_skyIn 24 = .ok (.ireturn, 1) := by decide +kernel
theorem dX6_fits_0 : decode cX6_fits 0 = .ok (.aload_n 0, 1) := by decide +kernel
theorem dX6_fits_1 : decode cX6_fits 1 = .ok (.getfield 15, 3) := by decide +kernel
theorem dX6_fits_4 : decode cX6_fits 4 = .ok (.iload_n 1, 1) := by decide +kernel
theorem dX6_fits_5 : decode cX6_fits 5 = .ok (.iaload, 1) := by decide +kernel
theorem dX6_fits_6 : decode cX6_fits 6 = .ok (.aload_n 0, 1) := by decide +kernel
theorem dX6_fits_7 : decode cX6_fits 7 = .ok (.getfield 21, 3) := by decide +kernel
theorem dX6_fits_10 : decode cX6_fits 10 = .ok (.iload_n 2, 1) := by decide +kernel
theorem dX6_fits_11 : decode cX6_fits 11 = .ok (.iaload, 1) := by decide +kernel
theorem dX6_fits_12 : decode cX6_fits 12 = .ok (.if_icmp .gt 7, 3) := by decide +kernel
theorem dX6_fits_15 : decode cX6_fits 15 = .ok (.iconst 1, 1) := by decide +kernel
theorem dX6_fits_16 : decode cX6_fits 16 = .ok (.goto 4, 3) := by decide +kernel
theorem dX6_fits_19 : decode cX6_fits 19 = .ok (.iconst 0, 1) := by decide +kernel
theorem dX6_fits_20 : decode cX6_fits 20 = .ok (.ireturn, 1) := by decide +kernel
theorem dX6_soaked_0 : decode cX6_soaked 0 = .ok (.iconst 2, 1) := by decide +kernel
theorem dX6_soaked_1 : decode cX6_soaked 1 = .ok (.aload_n 0, 1) := by decide +kernel
theorem dX6_soaked_2 : decode cX6_soaked 2 = .ok (.getfield 9, 3) := by decide +kernel
theorem dX6_soaked_5 : decode cX6_soaked 5 = .ok (.iload_n 1, 1) := by decide +kernel
theorem dX6_soaked_6 : decode cX6_soaked 6 = .ok (.iaload, 1) := by decide +kernel
theorem dX6_soaked_7 : decode cX6_soaked 7 = .ok (.imul, 1) := by decide +kernel
theorem dX6_soaked_8 : decode cX6_soaked 8 = .ok (.iload_n 2, 1) := by decide +kernel
theorem dX6_soaked_9 : decode cX6_soaked 9 = .ok (.iload 4, 2) := by decide +kernel
theorem dX6_soaked_11 : decode cX6_soaked 11 = .ok (.iload_n 3, 1) := by decide +kernel
theorem dX6_soaked_12 : decode cX6_soaked 12 = .ok (.imul, 1) := by decide +kernel
theorem dX6_soaked_13 : decode cX6_soaked 13 = .ok (.aload_n 0, 1) := by decide +kernel
theorem dX6_soaked_14 : decode cX6_soaked 14 = .ok (.getfield 15, 3) := by decide +kernel
theorem dX6_soaked_17 : decode cX6_soaked 17 = .ok (.iload_n 1, 1) := by decide +kernel
theorem dX6_soaked_18 : decode cX6_soaked 18 = .ok (.iaload, 1) := by decide +kernel
theorem dX6_soaked_19 : decode cX6_soaked 19 = .ok (.imul, 1) := by decide +kernel
theorem dX6_soaked_20 : decode cX6_soaked 20 = .ok (.iadd, 1) := by decide +kernel
theorem dX6_soaked_21 : decode cX6_soaked 21 = .ok (.invokestatic 50, 3) := by decide +kernel
theorem dX6_soaked_24 : decode cX6_soaked 24 = .ok (.ireturn, 1) := by decide +kernel
set_option maxRecDepth 20000 in
theorem ggX7_init_X4_init : GoodIn wsX7_init wsX4_init := goodIn_r _ [37, 38, 2, 3, 39, 40, 41, 9, 10, 42, 43, 44, 45, 46, 47, 48, 49, 50, 51, 52, 96, 97, 98, 99, 100, 101, 102, 103, 114, 115, 116, 117, 118, 119, 120, 121, 122] (by decide +kernel) (by decide +kernel)
set_option maxRecDepth 20000 in
theorem gX7_init_X4_init_n9 : GoodIn wsX7_init (wsX4_init) := ggX7_init_X4_init
set_option maxRecDepth 20000 in
theorem ggX7_init_X6_init : GoodIn wsX7_init wsX6_init := goodIn_r _ [44, 45, 2, 3, 46, 47, 48, 49, 50, 51, 52, 114, 115, 116, 117, 118, 119, 120, 121, 122] (by decide +kernel) (by decide +kernel)
set_option maxRecDepth 20000 in
theorem gX7_init_X6_init_n18 : GoodIn wsX7_init (wsX6_init) := ggX7_init_X6_init
set_option maxRecDepth 20000 in
theorem ggX7_init_X3_init : GoodIn wsX7_init wsX3_init := goodIn_r _ [55, 56, 2, 3, 46, 57, 58, 59, 18, 60, 61, 123, 124, 125, 126, 127, 128, 129] (by decide +kernel) (by decide +kernel)
set_option maxRecDepth 20000 in
theorem gX7_init_X3_init : GoodIn wsX7_init (wsX3_init) := ggX7_init_X3_init
set_option maxRecDepth 20000 in
theorem ggX7_init_X1_init : GoodIn wsX7_init wsX1_init := goodIn_r _ [64, 65, 2, 3, 46, 66, 18, 67, 68, 69, 70, 71, 72, 73, 74, 130, 131, 132, 133, 134, 135, 136, 137, 138, 139] (by decide +kernel) (by decide +kernel)
set_option maxRecDepth 20000 in
theorem gX7_init_X1_init : GoodIn wsX7_init (wsX1_init) := ggX7_init_X1_init
set_option maxRecDepth 20000 in
theorem ggX7_init_X5_init : GoodIn wsX7_init wsX5_init := goodIn_r _ [77, 78, 2, 3, 46, 79, 18, 80, 81, 82, 83, 140, 141, 142, 143, 144, 145, 146, 147] (by decide +kernel) (by decide +kernel)
set_option maxRecDepth 20000 in
theorem gX7_init_X5_init : GoodIn wsX7_init (wsX5_init) := ggX7_init_X5_init
set_option maxRecDepth 20000 in
theorem ggX7_init_X0_init : GoodIn wsX7_init wsX0_init := goodIn_r _ [85, 86, 2, 3, 46, 87, 88, 89, 148, 149, 150, 151] (by decide +kernel) (by decide +kernel)
set_option maxRecDepth 20000 in
theorem gX7_init_X0_init_n63 : GoodIn wsX7_init (wsX0_init) := ggX7_init_X0_init
set_option maxRecDepth 20000 in
theorem ggX7_init_X2_init : GoodIn wsX7_init wsX2_init := goodIn_r _ [92, 93, 2, 3, 94, 95, 152, 153, 154] (by decide +kernel) (by decide +kernel)
set_option maxRecDepth 20000 in
theorem gX7_init_X2_init : GoodIn wsX7_init (wsX2_init) := ggX7_init_X2_init
theorem dX7_init_0 : decode cX7_init 0 = .ok (.aload_n 0, 1) := by decide +kernel
theorem dX7_init_1 : decode cX7_init 1 = .ok (.invokespecial 1, 3) := by decide +kernel
theorem dX7_init_4 : decode cX7_init 4 = .ok (.aload_n 0, 1) := by decide +kernel
theorem dX7_init_5 : decode cX7_init 5 = .ok (.new 7, 3) := by decide +kernel
theorem dX7_init_8 : decode cX7_init 8 = .ok (.dup, 1) := by decide +kernel
theorem dX7_init_9 : decode cX7_init 9 = .ok (.invokespecial 9, 3) := by decide +kernel
theorem dX7_init_12 : decode cX7_init 12 = .ok (.putfield 10, 3) := by decide +kernel
theorem dX7_init_15 : decode cX7_init 15 = .ok (.aload_n 0, 1) := by decide +kernel
theorem dX7_init_16 : decode cX7_init 16 = .ok (.new 16, 3) := by decide +kernel
theorem dX7_init_19 : decode cX7_init 19 = .ok (.dup, 1) := by decide +kernel
theorem dX7_init_20 : decode cX7_init 20 = .ok (.invokespecial 18, 3) := by decide +kernel
theorem dX7_init_23 : decode cX7_init 23 = .ok (.putfield 19, 3) := by decide +kernel
theorem dX7_init_26 : decode cX7_init 26 = .ok (.aload_n 0, 1) := by decide +kernel
theorem dX7_init_27 : decode cX7_init 27 = .ok (.new 23, 3) := by decide +kernel
theorem dX7_init_30 : decode cX7_init 30 = .ok (.dup, 1) := by decide +kernel
theorem dX7_init_31 : decode cX7_init 31 = .ok (.aload_n 0, 1) := by decide +kernel
theorem dX7_init_32 : decode cX7_init 32 = .ok (.getfield 19, 3) := by decide +kernel
theorem dX7_init_35 : decode cX7_init 35 = .ok (.invokespecial 25, 3) := by decide +kernel
theorem dX7_init_38 : decode cX7_init 38 = .ok (.putfield 28, 3) := by decide +kernel
theorem dX7_init_41 : decode cX7_init 41 = .ok (.aload_n 0, 1) := by decide +kernel
theorem dX7_init_42 : decode cX7_init 42 = .ok (.new 23, 3) := by decide +kernel
theorem dX7_init_45 : decode cX7_init 45 = .ok (.dup, 1) := by decide +kernel
theorem dX7_init_46 : decode cX7_init 46 = .ok (.aload_n 0, 1) := by decide +kernel
theorem dX7_init_47 : decode cX7_init 47 = .ok (.getfield 19, 3) := by decide +kernel
theorem dX7_init_50 : decode cX7_init 50 = .ok (.invokespecial 25, 3) := by decide +kernel
theorem dX7_init_53 : decode cX7_init 53 = .ok (.putfield 32, 3) := by decide +kernel
theorem dX7_init_56 : decode cX7_init 56 = .ok (.aload_n 0, 1) := by decide +kernel
theorem dX7_init_57 : decode cX7_init 57 = .ok (.iconst 2, 1) := by decide +kernel
theorem dX7_init_58 : decode cX7_init 58 = .ok (.anewarray 23, 3) := by decide +kernel
theorem dX7_init_61 : decode cX7_init 61 = .ok (.putfield 35, 3) := by decide +kernel
theorem dX7_init_64 : decode cX7_init 64 = .ok (.iconst 0, 1) := by decide +kernel
theorem dX7_init_65 : decode cX7_init 65 = .ok (.istore_n 1, 1) := by decide +kernel
theorem dX7_init_66 : decode cX7_init 66 = .ok (.iload_n 1, 1) := by decide +kernel
theorem dX7_init_67 : decode cX7_init 67 = .ok (.iconst 2, 1) := by decide +kernel
theorem dX7_init_68 : decode cX7_init 68 = .ok (.if_icmp .ge 26, 3) := by decide +kernel
theorem dX7_init_71 : decode cX7_init 71 = .ok (.aload_n 0, 1) := by decide +kernel
theorem dX7_init_72 : decode cX7_init 72 = .ok (.getfield 35, 3) := by decide +kernel
theorem dX7_init_75 : decode cX7_init 75 = .ok (.iload_n 1, 1) := by decide +kernel
theorem dX7_init_76 : decode cX7_init 76 = .ok (.new 23, 3) := by decide +kernel
theorem dX7_init_79 : decode cX7_init 79 = .ok (.dup, 1) := by decide +kernel
theorem dX7_init_80 : decode cX7_init 80 = .ok (.aload_n 0, 1) := by decide +kernel
theorem dX7_init_81 : decode cX7_init 81 = .ok (.getfield 19, 3) := by decide +kernel
theorem dX7_init_84 : decode cX7_init 84 = .ok (.invokespecial 25, 3) := by decide +kernel
theorem dX7_init_87 : decode cX7_init 87 = .ok (.aastore, 1) := by decide +kernel
theorem dX7_init_88 : decode cX7_init 88 = .ok (.iinc 1 1, 3) := by decide +kernel
theorem dX7_init_91 : decode cX7_init 91 = .ok (.goto (-25), 3) := by decide +kernel
theorem dX7_init_94 : decode cX7_init 94 = .ok (.aload_n 0, 1) := by decide +kernel
theorem dX7_init_95 : decode cX7_init 95 = .ok (.iconst 2, 1) := by decide +kernel
theorem dX7_init_96 : decode cX7_init 96 = .ok (.newarray .boolean, 2) := by decide +kernel
theorem dX7_init_98 : decode cX7_init 98 = .ok (.putfield 39, 3) := by decide +kernel
theorem dX7_init_101 : decode cX7_init 101 = .ok (.aload_n 0, 1) := by decide +kernel
theorem dX7_init_102 : decode cX7_init 102 = .ok (.new 43, 3) := by decide +kernel
theorem dX7_init_105 : decode cX7_init 105 = .ok (.dup, 1) := by decide +kernel
theorem dX7_init_106 : decode cX7_init 106 = .ok (.aload_n 0, 1) := by decide +kernel
theorem dX7_init_107 : decode cX7_init 107 = .ok (.getfield 19, 3) := by decide +kernel
theorem dX7_init_110 : decode cX7_init 110 = .ok (.aload_n 0, 1) := by decide +kernel
theorem dX7_init_111 : decode cX7_init 111 = .ok (.getfield 28, 3) := by decide +kernel
theorem dX7_init_114 : decode cX7_init 114 = .ok (.aload_n 0, 1) := by decide +kernel
theorem dX7_init_115 : decode cX7_init 115 = .ok (.getfield 32, 3) := by decide +kernel
theorem dX7_init_118 : decode cX7_init 118 = .ok (.invokespecial 45, 3) := by decide +kernel
theorem dX7_init_121 : decode cX7_init 121 = .ok (.putfield 48, 3) := by decide +kernel
theorem dX7_init_124 : decode cX7_init 124 = .ok (.aload_n 0, 1) := by decide +kernel
theorem dX7_init_125 : decode cX7_init 125 = .ok (.new 52, 3) := by decide +kernel
theorem dX7_init_128 : decode cX7_init 128 = .ok (.dup, 1) := by decide +kernel
theorem dX7_init_129 : decode cX7_init 129 = .ok (.aload_n 0, 1) := by decide +kernel
theorem dX7_init_130 : decode cX7_init 130 = .ok (.getfield 19, 3) := by decide +kernel
theorem dX7_init_133 : decode cX7_init 133 = .ok (.aload_n 0, 1) := by decide +kernel
theorem dX7_init_134 : decode cX7_init 134 = .ok (.getfield 28, 3) := by decide +kernel
theorem dX7_init_137 : decode cX7_init 137 = .ok (.invokespecial 54, 3) := by decide +kernel
theorem dX7_init_140 : decode cX7_init 140 = .ok (.putfield 57, 3) := by decide +kernel
theorem dX7_init_143 : decode cX7_init 143 = .ok (.aload_n 0, 1) := by decide +kernel
theorem dX7_init_144 : decode cX7_init 144 = .ok (.new 61, 3) := by decide +kernel
theorem dX7_init_147 : decode cX7_init 147 = .ok (.dup, 1) := by decide +kernel
theorem dX7_init_148 : decode cX7_init 148 = .ok (.invokespecial 63, 3) := by decide +kernel
theorem dX7_init_151 : decode cX7_init 151 = .ok (.putfield 64, 3) := by decide +kernel
theorem dX7_init_154 : decode cX7_init 154 = .ok (.aload_n 0, 1) := by decide +kernel
theorem dX7_init_155 : decode cX7_init 155 = .ok (.new 68, 3) := by decide +kernel
theorem dX7_init_158 : decode cX7_init 158 = .ok (.dup, 1) := by decide +kernel
theorem dX7_init_159 : decode cX7_init 159 = .ok (.aload_n 0, 1) := by decide +kernel
theorem dX7_init_160 : decode cX7_init 160 = .ok (.getfield 19, 3) := by decide +kernel
theorem dX7_init_163 : decode cX7_init 163 = .ok (.aload_n 0, 1) := by decide +kernel
theorem dX7_init_164 : decode cX7_init 164 = .ok (.getfield 28, 3) := by decide +kernel
theorem dX7_init_167 : decode cX7_init 167 = .ok (.invokespecial 70, 3) := by decide +kernel
theorem dX7_init_170 : decode cX7_init 170 = .ok (.putfield 71, 3) := by decide +kernel
theorem dX7_init_173 : decode cX7_init 173 = .ok (.return_, 1) := by decide +kernel
set_option maxRecDepth 20000 in
theorem ggX7_type_X7_within : GoodIn wsX7_type wsX7_within := goodIn_r _ [6] (by decide +kernel) (by decide +kernel)
set_option maxRecDepth 20000 in
theorem gX7_type_X7_within : GoodIn wsX7_type (va_wsS RX7 75 yX7_within wsX7_within) := goodIn_app (goodIn_of _ (by decide +kernel)) ggX7_type_X7_within
set_option maxRecDepth 20000 in
theorem ggX7_type_X4_take : GoodIn wsX7_type wsX4_take := goodIn_r _ [11, 12, 13, 24, 25, 26, 27, 28, 29, 30, 31] (by decide +kernel) (by decide +kernel)
set_option maxRecDepth 20000 in
theorem gX7_type_X4_take : GoodIn wsX7_type (wsV RX7 79 RX4 yX4_take wsX4_take) := goodIn_app (goodIn_of _ (by decide +kernel)) ggX7_type_X4_take
theorem dX7_type_0 : decode cX7_type 0 = .ok (.iload_n 3, 1) := by decide +kernel
theorem dX7_type_1 : decode cX7_type 1 = .ok (.iconst 1, 1) := by decide +kernel
theorem dX7_type_2 : decode cX7_type 2 = .ok (.bipush 8, 2) := by decide +kernel
theorem dX7_type_4 : decode cX7_type 4 = .ok (.invokestatic 75, 3) := by decide +kernel
theorem dX7_type_7 : decode cX7_type 7 = .ok (.ifCond .ne 5, 3) := by decide +kernel
theorem dX7_type_10 : decode cX7_type 10 = .ok (.iconst (-1), 1) := by decide +kernel
theorem dX7_type_11 : decode cX7_type 11 = .ok (.ireturn, 1) := by decide +kernel
theorem dX7_type_12 : decode cX7_type 12 = .ok (.aload_n 0, 1) := by decide +kernel
theorem dX7_type_13 : decode cX7_type 13 = .ok (.getfield 10, 3) := by decide +kernel
theorem dX7_type_16 : decode cX7_type 16 = .ok (.lload_n 1, 1) := by decide +kernel
theorem dX7_type_17 : decode cX7_type 17 = .ok (.iload_n 3, 1) := by decide +kernel
theorem dX7_type_18 : decode cX7_type 18 = .ok (.invokevirtual 79, 3) := by decide +kernel
theorem dX7_type_21 : decode cX7_type 21 = .ok (.ifCond .eq 13, 3) := by decide +kernel
theorem dX7_type_24 : decode cX7_type 24 = .ok (.aload_n 0, 1) := by decide +kernel
theorem dX7_type_25 : decode cX7_type 25 = .ok (.getfield 10, 3) := by decide +kernel
theorem dX7_type_28 : decode cX7_type 28 = .ok (.getfield 83, 3) := by decide +kernel
theorem dX7_type_31 : decode cX7_type 31 = .ok (.goto 5, 3) := by decide +kernel
theorem dX7_type_34 : decode cX7_type 34 = .ok (.bipush (-3), 2) := by decide +kernel
theorem dX7_type_36 : decode cX7_type 36 = .ok (.ireturn, 1) := by decide +kernel
set_option maxRecDepth 20000 in
theorem ggX7_clear_X4_empty : GoodIn wsX7_clear wsX4_empty := goodIn_r _ [6, 7, 18, 19, 20, 21, 22, 23, 24, 25] (by decide +kernel) (by decide +kernel)
set_option maxRecDepth 20000 in
theorem gX7_clear_X4_empty : GoodIn wsX7_clear (wsV RX7 87 RX4 yX4_empty wsX4_empty) := goodIn_app (goodIn_of _ (by decide +kernel)) ggX7_clear_X4_empty
theorem dX7_clear_0 : decode cX7_clear 0 = .ok (.aload_n 0, 1) := by decide +kernel
theorem dX7_clear_1 : decode cX7_clear 1 = .ok (.getfield 10, 3) := by decide +kernel
theorem dX7_clear_4 : decode cX7_clear 4 = .ok (.invokevirtual 87, 3) := by decide +kernel
theorem dX7_clear_7 : decode cX7_clear 7 = .ok (.ireturn, 1) := by decide +kernel
set_option maxRecDepth 20000 in
theorem ggX7_day_X4_readAll : GoodIn wsX7_day wsX4_readAll := goodIn_r _ [10, 11, 12, 13, 14, 15, 16, 17, 18, 19, 20, 21, 22, 23, 24, 25, 9, 26, 27, 28, 29, 30, 31, 32, 33, 34, 35, 36, 37, 38, 39, 40, 41, 42, 43, 44, 45, 46, 47, 48, 49, 50, 51, 52, 53, 54, 55, 56, 57, 58, 59, 60, 61, 62, 63, 64, 65, 66, 67, 68, 69, 70, 71, 72, 73, 74, 75, 76, 77, 78, 79, 80, 81, 82, 83, 84, 85, 86, 87, 88, 89, 90, 91, 92, 93, 94, 95, 96, 97, 98, 99, 100, 101, 102, 103, 104, 105, 106, 107, 108, 109, 110, 111, 112, 113, 114, 115, 116, 117, 118, 119, 120, 121, 122, 123, 124, 125, 126, 127, 128, 129, 130, 131, 132, 133, 134, 135, 136, 137, 180, 181, 182, 183, 184, 185, 186, 187, 188, 189, 190, 191, 192, 193, 194, 195, 196] (by decide +kernel) (by decide +kernel)
set_option maxRecDepth 20000 in
theorem gX7_day_X4_readAll : GoodIn wsX7_day (wsV RX7 91 RX4 yX4_readAll wsX4_readAll) := goodIn_app (goodIn_of _ (by decide +kernel)) ggX7_day_X4_readAll
set_option maxRecDepth 20000 in
theorem ggX7_day_X6_copy : GoodIn wsX7_day wsX6_copy := goodIn_r _ [141, 20, 21, 22, 142, 143, 144, 145, 146, 147, 148, 149, 150, 151, 188, 189, 190, 191, 192, 193, 194, 195, 196] (by decide +kernel) (by decide +kernel)
set_option maxRecDepth 20000 in
theorem gX7_day_X6_copy : GoodIn wsX7_day (wsV RX7 97 RX6 yX6_copy wsX6_copy) := goodIn_app (goodIn_of _ (by decide +kernel)) ggX7_day_X6_copy
set_option maxRecDepth 20000 in
theorem ggX7_day_X4_empty : GoodIn wsX7_day wsX4_empty := goodIn_r _ [155, 27, 180, 181, 182, 183, 184, 185, 186, 187] (by decide +kernel) (by decide +kernel)
set_option maxRecDepth 20000 in
theorem gX7_day_X4_empty : GoodIn wsX7_day (wsV RX7 87 RX4 yX4_empty wsX4_empty) := goodIn_app (goodIn_of _ (by decide +kernel)) ggX7_day_X4_empty
set_option maxRecDepth 20000 in
theorem ggX7_day_X3_begin : GoodIn wsX7_day wsX3_begin := goodIn_r _ [160, 161, 162, 163, 164, 165, 166, 167, 168, 169, 197, 198, 199, 200, 201, 202, 203, 188, 189, 190, 191, 192, 193, 194, 195, 196] (by decide +kernel) (by decide +kernel)
set_option maxRecDepth 20000 in
theorem gX7_day_X3_begin : GoodIn wsX7_day (wsV RX7 100 RX3 yX3_begin wsX3_begin) := goodIn_app (goodIn_of _ (by decide +kernel)) ggX7_day_X3_begin
theorem dX7_day_0 : decode cX7_day 0 = .ok (.aload_n 0, 1) := by decide +kernel
theorem dX7_day_1 : decode cX7_day 1 = .ok (.getfield 10, 3) := by decide +kernel
theorem dX7_day_4 : decode cX7_day 4 = .ok (.invokevirtual 91, 3) := by decide +kernel
theorem dX7_day_7 : decode cX7_day 7 = .ok (.istore_n 1, 1) := by decide +kernel
theorem dX7_day_8 : decode cX7_day 8 = .ok (.iload_n 1, 1) := by decide +kernel
theorem dX7_day_9 : decode cX7_day 9 = .ok (.ifCond .ge 5, 3) := by decide +kernel
theorem dX7_day_12 : decode cX7_day 12 = .ok (.iload_n 1, 1) := by decide +kernel
theorem dX7_day_13 : decode cX7_day 13 = .ok (.ireturn, 1) := by decide +kernel
theorem dX7_day_14 : decode cX7_day 14 = .ok (.aload_n 0, 1) := by decide +kernel
theorem dX7_day_15 : decode cX7_day 15 = .ok (.getfield 19, 3) := by decide +kernel
theorem dX7_day_18 : decode cX7_day 18 = .ok (.aload_n 0, 1) := by decide +kernel
theorem dX7_day_19 : decode cX7_day 19 = .ok (.getfield 10, 3) := by decide +kernel
theorem dX7_day_22 : decode cX7_day 22 = .ok (.getfield 94, 3) := by decide +kernel
theorem dX7_day_25 : decode cX7_day 25 = .ok (.invokevirtual 97, 3) := by decide +kernel
theorem dX7_day_28 : decode cX7_day 28 = .ok (.aload_n 0, 1) := by decide +kernel
theorem dX7_day_29 : decode cX7_day 29 = .ok (.getfield 10, 3) := by decide +kernel
theorem dX7_day_32 : decode cX7_day 32 = .ok (.invokevirtual 87, 3) := by decide +kernel
theorem dX7_day_35 : decode cX7_day 35 = .ok (.pop, 1) := by decide +kernel
theorem dX7_day_36 : decode cX7_day 36 = .ok (.aload_n 0, 1) := by decide +kernel
theorem dX7_day_37 : decode cX7_day 37 = .ok (.getfield 28, 3) := by decide +kernel
theorem dX7_day_40 : decode cX7_day 40 = .ok (.invokevirtual 100, 3) := by decide +kernel
theorem dX7_day_43 : decode cX7_day 43 = .ok (.iconst 0, 1) := by decide +kernel
theorem dX7_day_44 : decode cX7_day 44 = .ok (.istore_n 2, 1) := by decide +kernel
theorem dX7_day_45 : decode cX7_day 45 = .ok (.iload_n 2, 1) := by decide +kernel
theorem dX7_day_46 : decode cX7_day 46 = .ok (.iconst 2, 1) := by decide +kernel
theorem dX7_day_47 : decode cX7_day 47 = .ok (.if_icmp .ge 16, 3) := by decide +kernel
theorem dX7_day_50 : decode cX7_day 50 = .ok (.aload_n 0, 1) := by decide +kernel
theorem dX7_day_51 : decode cX7_day 51 = .ok (.getfield 39, 3) := by decide +kernel
theorem dX7_day_54 : decode cX7_day 54 = .ok (.iload_n 2, 1) := by decide +kernel
theorem dX7_day_55 : decode cX7_day 55 = .ok (.iconst 0, 1) := by decide +kernel
theorem dX7_day_56 : decode cX7_day 56 = .ok (.bastore, 1) := by decide +kernel
theorem dX7_day_57 : decode cX7_day 57 = .ok (.iinc 2 1, 3) := by decide +kernel
theorem dX7_day_60 : decode cX7_day 60 = .ok (.goto (-15), 3) := by decide +kernel
theorem dX7_day_63 : decode cX7_day 63 = .ok (.iload_n 1, 1) := by decide +kernel
theorem dX7_day_64 : decode cX7_day 64 = .ok (.ireturn, 1) := by decide +kernel
set_option maxRecDepth 20000 in
theorem ggX7_piece_X7_isPiece : GoodIn wsX7_piece wsX7_isPiece := goodIn_r _ [13, 3, 14, 15, 16, 12, 17, 18, 19, 20, 21, 22, 23, 24, 25, 26, 27, 35, 36, 37, 38, 39, 40, 41, 42, 43] (by decide +kernel) (by decide +kernel)
set_option maxRecDepth 20000 in
theorem gX7_piece_X7_isPiece : GoodIn wsX7_piece (wsV RX7 103 RX7 yX7_isPiece wsX7_isPiece) := goodIn_app (goodIn_of _ (by decide +kernel)) ggX7_piece_X7_isPiece
theorem dX7_piece_0 : decode cX7_piece 0 = .ok (.aload_n 0, 1) := by decide +kernel
theorem dX7_piece_1 : decode cX7_piece 1 = .ok (.iload_n 1, 1) := by decide +kernel
theorem dX7_piece_2 : decode cX7_piece 2 = .ok (.invokevirtual 103, 3) := by decide +kernel
theorem dX7_piece_5 : decode cX7_piece 5 = .ok (.ifCond .ne 5, 3) := by decide +kernel
theorem dX7_piece_8 : decode cX7_piece 8 = .ok (.iconst (-1), 1) := by decide +kernel
theorem dX7_piece_9 : decode cX7_piece 9 = .ok (.ireturn, 1) := by decide +kernel
theorem dX7_piece_10 : decode cX7_piece 10 = .ok (.iload_n 2, 1) := by decide +kernel
theorem dX7_piece_11 : decode cX7_piece 11 = .ok (.tableswitch 105 0 5 #[37, 47, 57, 67, 77, 95], 37) := by decide +kernel
theorem dX7_piece_48 : decode cX7_piece 48 = .ok (.aload_n 0, 1) := by decide +kernel
theorem dX7_piece_49 : decode cX7_piece 49 = .ok (.getfield 28, 3) := by decide +kernel
theorem dX7_piece_52 : decode cX7_piece 52 = .ok (.getfield 107, 3) := by decide +kernel
theorem dX7_piece_55 : decode cX7_piece 55 = .ok (.iload_n 1, 1) := by decide +kernel
theorem dX7_piece_56 : decode cX7_piece 56 = .ok (.iaload, 1) := by decide +kernel
theorem dX7_piece_57 : decode cX7_piece 57 = .ok (.ireturn, 1) := by decide +kernel
theorem dX7_piece_58 : decode cX7_piece 58 = .ok (.aload_n 0, 1) := by decide +kernel
theorem dX7_piece_59 : decode cX7_piece 59 = .ok (.getfield 19, 3) := by decide +kernel
theorem dX7_piece_62 : decode cX7_piece 62 = .ok (.getfield 111, 3) := by decide +kernel
theorem dX7_piece_65 : decode cX7_piece 65 = .ok (.iload_n 1, 1) := by decide +kernel
theorem dX7_piece_66 : decode cX7_piece 66 = .ok (.iaload, 1) := by decide +kernel
theorem dX7_piece_67 : decode cX7_piece 67 = .ok (.ireturn, 1) := by decide +kernel
theorem dX7_piece_68 : decode cX7_piece 68 = .ok (.aload_n 0, 1) := by decide +kernel
theorem dX7_piece_69 : decode cX7_piece 69 = .ok (.getfield 19, 3) := by decide +kernel
theorem dX7_piece_72 : decode cX7_piece 72 = .ok (.getfield 114, 3) := by decide +kernel
theorem dX7_piece_75 : decode cX7_piece 75 = .ok (.iload_n 1, 1) := by decide +kernel
theorem dX7_piece_76 : decode cX7_piece 76 = .ok (.iaload, 1) := by decide +kernel
theorem dX7_piece_77 : decode cX7_piece 77 = .ok (.ireturn, 1) := by decide +kernel
theorem dX7_piece_78 : decode cX7_piece 78 = .ok (.aload_n 0, 1) := by decide +kernel
theorem dX7_piece_79 : decode cX7_piece 79 = .ok (.getfield 28, 3) := by decide +kernel
theorem dX7_piece_82 : decode cX7_piece 82 = .ok (.getfield 117, 3) := by decide +kernel
theorem dX7_piece_85 : decode cX7_piece 85 = .ok (.iload_n 1, 1) := by decide +kernel
theorem dX7_piece_86 : decode cX7_piece 86 = .ok (.iaload, 1) := by decide +kernel
theorem dX7_piece_87 : decode cX7_piece 87 = .ok (.ireturn, 1) := by decide +kernel
theorem dX7_piece_88 : decode cX7_piece 88 = .ok (.aload_n 0, 1) := by decide +kernel
theorem dX7_piece_89 : decode cX7_piece 89 = .ok (.getfield 28, 3) := by decide +kernel
theorem dX7_piece_92 : decode cX7_piece 92 = .ok (.getfield 120, 3) := by decide +kernel
theorem dX7_piece_95 : decode cX7_piece 95 = .ok (.iload_n 1, 1) := by decide +kernel
theorem dX7_piece_96 : decode cX7_piece 96 = .ok (.baload, 1) := by decide +kernel
theorem dX7_piece_97 : decode cX7_piece 97 = .ok (.ifCond .eq 7, 3) := by decide +kernel
theorem dX7_piece_100 : decode cX7_piece 100 = .ok (.iconst 1, 1) := by decide +kernel
theorem dX7_piece_101 : decode cX7_piece 101 = .ok (.goto 4, 3) := by decide +kernel
theorem dX7_piece_104 : decode cX7_piece 104 = .ok (.iconst 0, 1) := by decide +kernel
theorem dX7_piece_105 : decode cX7_piece 105 = .ok (.ireturn, 1) := by decide +kernel
theorem dX7_piece_106 : decode cX7_piece 106 = .ok (.aload_n 0, 1) := by decide +kernel
theorem dX7_piece_107 : decode cX7_piece 107 = .ok (.getfield 28, 3) := by decide +kernel
theorem dX7_piece_110 : decode cX7_piece 110 = .ok (.getfield 123, 3) := by decide +kernel
theorem dX7_piece_113 : decode cX7_piece 113 = .ok (.iload_n 1, 1) := by decide +kernel
theorem dX7_piece_114 : decode cX7_piece 114 = .ok (.iaload, 1) := by decide +kernel
theorem dX7_piece_115 : decode cX7_piece 115 = .ok (.ireturn, 1) := by decide +kernel
theorem dX7_piece_116 : decode cX7_piece 116 = .ok (.iconst (-1), 1) := by decide +kernel
theorem dX7_piece_117 : decode cX7_piece 117 = .ok (.ireturn, 1) := by decide +kernel
set_option maxRecDepth 20000 in
theorem ggX7_spot_X7_isSpot : GoodIn wsX7_spot wsX7_isSpot := goodIn_r _ [9, 1, 10, 11, 12, 8, 13, 22, 23, 24, 25, 26, 27, 28, 29, 30, 31, 32, 33, 34, 35, 36, 37, 38, 39, 40] (by decide +kernel) (by decide +kernel)
set_option maxRecDepth 20000 in
theorem gX7_spot_X7_isSpot : GoodIn wsX7_spot (wsV RX7 126 RX7 yX7_isSpot wsX7_isSpot) := goodIn_app (goodIn_of _ (by decide +kernel)) ggX7_spot_X7_isSpot
set_option maxRecDepth 20000 in
theorem ggX7_spot_X3_pieceAt : GoodIn wsX7_spot wsX3_pieceAt := goodIn_r _ [18, 19, 20, 21, 41, 42, 43, 44, 45, 46, 47, 32, 33, 34, 35, 36, 37, 38, 39, 40] (by decide +kernel) (by decide +kernel)
set_option maxRecDepth 20000 in
theorem gX7_spot_X3_pieceAt : GoodIn wsX7_spot (wsV RX7 135 RX3 yX3_pieceAt wsX3_pieceAt) := goodIn_app (goodIn_of _ (by decide +kernel)) ggX7_spot_X3_pieceAt
theorem dX7_spot_0 : decode cX7_spot 0 = .ok (.aload_n 0, 1) := by decide +kernel
theorem dX7_spot_1 : decode cX7_spot 1 = .ok (.iload_n 1, 1) := by decide +kernel
theorem dX7_spot_2 : decode cX7_spot 2 = .ok (.invokevirtual 126, 3) := by decide +kernel
theorem dX7_spot_5 : decode cX7_spot 5 = .ok (.ifCond .ne 5, 3) := by decide +kernel
theorem dX7_spot_8 : decode cX7_spot 8 = .ok (.iconst (-1), 1) := by decide +kernel
theorem dX7_spot_9 : decode cX7_spot 9 = .ok (.ireturn, 1) := by decide +kernel
theorem dX7_spot_10 : decode cX7_spot 10 = .ok (.iload_n 2, 1) := by decide +kernel
theorem dX7_spot_11 : decode cX7_spot 11 = .ok (.tableswitch 54 0 2 #[25, 35, 45], 25) := by decide +kernel
theorem dX7_spot_36 : decode cX7_spot 36 = .ok (.aload_n 0, 1) := by decide +kernel
theorem dX7_spot_37 : decode cX7_spot 37 = .ok (.getfield 19, 3) := by decide +kernel
theorem dX7_spot_40 : decode cX7_spot 40 = .ok (.getfield 129, 3) := by decide +kernel
theorem dX7_spot_43 : decode cX7_spot 43 = .ok (.iload_n 1, 1) := by decide +kernel
theorem dX7_spot_44 : decode cX7_spot 44 = .ok (.iaload, 1) := by decide +kernel
theorem dX7_spot_45 : decode cX7_spot 45 = .ok (.ireturn, 1) := by decide +kernel
theorem dX7_spot_46 : decode cX7_spot 46 = .ok (.aload_n 0, 1) := by decide +kernel
theorem dX7_spot_47 : decode cX7_spot 47 = .ok (.getfield 19, 3) := by decide +kernel
theorem dX7_spot_50 : decode cX7_spot 50 = .ok (.getfield 132, 3) := by decide +kernel
theorem dX7_spot_53 : decode cX7_spot 53 = .ok (.iload_n 1, 1) := by decide +kernel
theorem dX7_spot_54 : decode cX7_spot 54 = .ok (.iaload, 1) := by decide +kernel
theorem dX7_spot_55 : decode cX7_spot 55 = .ok (.ireturn, 1) := by decide +kernel
theorem dX7_spot_56 : decode cX7_spot 56 = .ok (.aload_n 0, 1) := by decide +kernel
theorem dX7_spot_57 : decode cX7_spot 57 = .ok (.getfield 28, 3) := by decide +kernel
theorem dX7_spot_60 : decode cX7_spot 60 = .ok (.iload_n 1, 1) := by decide +kernel
theorem dX7_spot_61 : decode cX7_spot 61 = .ok (.invokevirtual 135, 3) := by decide +kernel
theorem dX7_spot_64 : decode cX7_spot 64 = .ok (.ireturn, 1) := by decide +kernel
theorem dX7_spot_65 : decode cX7_spot 65 = .ok (.iconst (-1), 1) := by decide +kernel
theorem dX7_spot_66 : decode cX7_spot 66 = .ok (.ireturn, 1) := by decide +kernel
set_option maxRecDepth 20000 in
theorem ggX7_sky_X7_within : GoodIn wsX7_sky wsX7_within := goodIn_r _ [6] (by decide +kernel) (by decide +kernel)
set_option maxRecDepth 20000 in
theorem gX7_sky_X7_within : GoodIn wsX7_sky (va_wsS RX7 75 yX7_within wsX7_within) := goodIn_app (goodIn_of _ (by decide +kernel)) ggX7_sky_X7_within
set_option maxRecDepth 20000 in
theorem ggX7_sky_X6_skyIn : GoodIn wsX7_sky wsX6_skyIn := goodIn_r _ [11, 12, 13, 4, 5, 6, 24, 25, 26, 27, 28, 29, 30, 31, 32] (by decide +kernel) (by decide +kernel)
set_option maxRecDepth 20000 in
theorem gX7_sky_X6_skyIn : GoodIn wsX7_sky (wsV RX7 139 RX6 yX6_skyIn wsX6_skyIn) := goodIn_app (goodIn_of _ (by decide +kernel)) ggX7_sky_X6_skyIn
theorem dX7_sky_0 : decode cX7_sky 0 = .ok (.iload_n 1, 1) := by decide +kernel
theorem dX7_sky_1 : decode cX7_sky 1 = .ok (.iconst 0, 1) := by decide +kernel
theorem dX7_sky_2 : decode cX7_sky 2 = .ok (.bipush 99, 2) := by decide +kernel
theorem dX7_sky_4 : decode cX7_sky 4 = .ok (.invokestatic 75, 3) := by decide +kernel
theorem dX7_sky_7 : decode cX7_sky 7 = .ok (.ifCond .eq 14, 3) := by decide +kernel
theorem dX7_sky_10 : decode cX7_sky 10 = .ok (.aload_n 0, 1) := by decide +kernel
theorem dX7_sky_11 : decode cX7_sky 11 = .ok (.getfield 19, 3) := by decide +kernel
theorem dX7_sky_14 : decode cX7_sky 14 = .ok (.iload_n 1, 1) := by decide +kernel
theorem dX7_sky_15 : decode cX7_sky 15 = .ok (.invokevirtual 139, 3) := by decide +kernel
theorem dX7_sky_18 : decode cX7_sky 18 = .ok (.goto 5, 3) := by decide +kernel
theorem dX7_sky_21 : decode cX7_sky 21 = .ok (.ldc 142, 2) := by decide +kernel
theorem dX7_sky_23 : decode cX7_sky 23 = .ok (.ireturn, 1) := by decide +kernel
set_option maxRecDepth 20000 in
theorem ggX7_hang_X7_isPiece : GoodIn wsX7_hang wsX7_isPiece := goodIn_r _ [8, 2, 9, 10, 11, 7, 12, 33, 34, 35, 36, 37, 38, 39, 40, 41, 42, 50, 51, 52, 53, 54, 55, 56, 57, 58] (by decide +kernel) (by decide +kernel)
set_option maxRecDepth 20000 in
theorem gX7_hang_X7_isPiece : GoodIn wsX7_hang (wsV RX7 103 RX7 yX7_isPiece wsX7_isPiece) := goodIn_app (goodIn_of _ (by decide +kernel)) ggX7_hang_X7_isPiece
set_option maxRecDepth 20000 in
theorem ggX7_hang_X7_isSpot : GoodIn wsX7_hang wsX7_isSpot := goodIn_r _ [16, 2, 17, 10, 11, 7, 12, 33, 34, 35, 36, 37, 38, 39, 40, 41, 42, 50, 51, 52, 53, 54, 55, 56, 57, 58] (by decide +kernel) (by decide +kernel)
set_option maxRecDepth 20000 in
theorem gX7_hang_X7_isSpot : GoodIn wsX7_hang (wsV RX7 126 RX7 yX7_isSpot wsX7_isSpot) := goodIn_app (goodIn_of _ (by decide +kernel)) ggX7_hang_X7_isSpot
set_option maxRecDepth 20000 in
theorem ggX7_hang_X3_pieceAt : GoodIn wsX7_hang wsX3_pieceAt := goodIn_r _ [22, 23, 24, 25, 43, 44, 45, 46, 47, 48, 49, 50, 51, 52, 53, 54, 55, 56, 57, 58] (by decide +kernel) (by decide +kernel)
set_option maxRecDepth 20000 in
theorem gX7_hang_X3_pieceAt : GoodIn wsX7_hang (wsV RX7 135 RX3 yX3_pieceAt wsX3_pieceAt) := goodIn_app (goodIn_of _ (by decide +kernel)) ggX7_hang_X3_pieceAt
set_option maxRecDepth 20000 in
theorem ggX7_hang_X6_fits : GoodIn wsX7_hang wsX6_fits := goodIn_r _ [30, 31, 32, 50, 51, 52, 53, 54, 55, 56, 57, 58] (by decide +kernel) (by decide +kernel)
set_option maxRecDepth 20000 in
theorem gX7_hang_X6_fits : GoodIn wsX7_hang (wsV RX7 143 RX6 yX6_fits wsX6_fits) := goodIn_app (goodIn_of _ (by decide +kernel)) ggX7_hang_X6_fits
theorem dX7_hang_0 : decode cX7_hang 0 = .ok (.aload_n 0, 1) := by decide +kernel
theorem dX7_hang_1 : decode cX7_hang 1 = .ok (.iload_n 1, 1) := by decide +kernel
theorem dX7_hang_2 : decode cX7_hang 2 = .ok (.invokevirtual 103, 3) := by decide +kernel
theorem dX7_hang_5 : decode cX7_hang 5 = .ok (.ifCond .eq 11, 3) := by decide +kernel
theorem dX7_hang_8 : decode cX7_hang 8 = .ok (.aload_n 0, 1) := by decide +kernel
theorem dX7_hang_9 : decode cX7_hang 9 = .ok (.iload_n 2, 1) := by decide +kernel
theorem dX7_hang_10 : decode cX7_hang 10 = .ok (.invokevirtual 126, 3) := by decide +kernel
theorem dX7_hang_13 : decode cX7_hang 13 = .ok (.ifCond .ne 5, 3) := by decide +kernel
theorem dX7_hang_16 : decode cX7_hang 16 = .ok (.iconst (-1), 1) := by decide +kernel
theorem dX7_hang_17 : decode cX7_hang 17 = .ok (.ireturn, 1) := by decide +kernel
theorem dX7_hang_18 : decode cX7_hang 18 = .ok (.aload_n 0, 1) := by decide +kernel
theorem dX7_hang_19 : decode cX7_hang 19 = .ok (.getfield 28, 3) := by decide +kernel
theorem dX7_hang_22 : decode cX7_hang 22 = .ok (.iload_n 2, 1) := by decide +kernel
theorem dX7_hang_23 : decode cX7_hang 23 = .ok (.invokevirtual 135, 3) := by decide +kernel
theorem dX7_hang_26 : decode cX7_hang 26 = .ok (.bipush (-9), 2) := by decide +kernel
theorem dX7_hang_28 : decode cX7_hang 28 = .ok (.if_icmp .ne 15, 3) := by decide +kernel
theorem dX7_hang_31 : decode cX7_hang 31 = .ok (.aload_n 0, 1) := by decide +kernel
theorem dX7_hang_32 : decode cX7_hang 32 = .ok (.getfield 19, 3) := by decide +kernel
theorem dX7_hang_35 : decode cX7_hang 35 = .ok (.iload_n 1, 1) := by decide +kernel
theorem dX7_hang_36 : decode cX7_hang 36 = .ok (.iload_n 2, 1) := by decide +kernel
theorem dX7_hang_37 : decode cX7_hang 37 = .ok (.invokevirtual 143, 3) := by decide +kernel
theorem dX7_hang_40 : decode cX7_hang 40 = .ok (.ifCond .ne 6, 3) := by decide +kernel
theorem dX7_hang_43 : decode cX7_hang 43 = .ok (.bipush (-2), 2) := by decide +kernel
theorem dX7_hang_45 : decode cX7_hang 45 = .ok (.ireturn, 1) := by decide +kernel
theorem dX7_hang_46 : decode cX7_hang 46 = .ok (.aload_n 0, 1) := by decide +kernel
theorem dX7_hang_47 : decode cX7_hang 47 = .ok (.getfield 28, 3) := by decide +kernel
theorem dX7_hang_50 : decode cX7_hang 50 = .ok (.getfield 123, 3) := by decide +kernel
theorem dX7_hang_53 : decode cX7_hang 53 = .ok (.iload_n 1, 1) := by decide +kernel
theorem dX7_hang_54 : decode cX7_hang 54 = .ok (.iload_n 2, 1) := by decide +kernel
theorem dX7_hang_55 : decode cX7_hang 55 = .ok (.iastore, 1) := by decide +kernel
theorem dX7_hang_56 : decode cX7_hang 56 = .ok (.iconst 1, 1) := by decide +kernel
theorem dX7_hang_57 : decode cX7_hang 57 = .ok (.ireturn, 1) := by decide +kernel
set_option maxRecDepth 20000 in
theorem ggX7_rack_X7_isPiece : GoodIn wsX7_rack wsX7_isPiece := goodIn_r _ [7, 8, 9, 10, 11, 6, 12, 21, 22, 23, 24, 25, 26, 27, 28, 29, 30, 38, 39, 40, 41, 42, 43, 44, 45, 46] (by decide +kernel) (by decide +kernel)
set_option maxRecDepth 20000 in
theorem gX7_rack_X7_isPiece : GoodIn wsX7_rack (wsV RX7 103 RX7 yX7_isPiece wsX7_isPiece) := goodIn_app (goodIn_of _ (by decide +kernel)) ggX7_rack_X7_isPiece
set_option maxRecDepth 20000 in
theorem ggX7_rack_X3_onRack : GoodIn wsX7_rack wsX3_onRack := goodIn_r _ [17, 18, 19, 20, 31, 32, 33, 34, 35, 36, 37, 38, 39, 40, 41, 42, 43, 44, 45, 46] (by decide +kernel) (by decide +kernel)
set_option maxRecDepth 20000 in
theorem gX7_rack_X3_onRack : GoodIn wsX7_rack (wsV RX7 147 RX3 yX3_onRack wsX3_onRack) := goodIn_app (goodIn_of _ (by decide +kernel)) ggX7_rack_X3_onRack
theorem dX7_rack_0 : decode cX7_rack 0 = .ok (.aload_n 0, 1) := by decide +kernel
theorem dX7_rack_1 : decode cX7_rack 1 = .ok (.iload_n 1, 1) := by decide +kernel
theorem dX7_rack_2 : decode cX7_rack 2 = .ok (.invokevirtual 103, 3) := by decide +kernel
theorem dX7_rack_5 : decode cX7_rack 5 = .ok (.ifCond .ne 5, 3) := by decide +kernel
theorem dX7_rack_8 : decode cX7_rack 8 = .ok (.iconst (-1), 1) := by decide +kernel
theorem dX7_rack_9 : decode cX7_rack 9 = .ok (.ireturn, 1) := by decide +kernel
theorem dX7_rack_10 : decode cX7_rack 10 = .ok (.aload_n 0, 1) := by decide +kernel
theorem dX7_rack_11 : decode cX7_rack 11 = .ok (.getfield 28, 3) := by decide +kernel
theorem dX7_rack_14 : decode cX7_rack 14 = .ok (.getfield 123, 3) := by decide +kernel
theorem dX7_rack_17 : decode cX7_rack 17 = .ok (.iload_n 1, 1) := by decide +kernel
theorem dX7_rack_18 : decode cX7_rack 18 = .ok (.iaload, 1) := by decide +kernel
theorem dX7_rack_19 : decode cX7_rack 19 = .ok (.bipush 8, 2) := by decide +kernel
theorem dX7_rack_21 : decode cX7_rack 21 = .ok (.if_icmp .ne 6, 3) := by decide +kernel
theorem dX7_rack_24 : decode cX7_rack 24 = .ok (.bipush (-2), 2) := by decide +kernel
theorem dX7_rack_26 : decode cX7_rack 26 = .ok (.ireturn, 1) := by decide +kernel
theorem dX7_rack_27 : decode cX7_rack 27 = .ok (.aload_n 0, 1) := by decide +kernel
theorem dX7_rack_28 : decode cX7_rack 28 = .ok (.getfield 28, 3) := by decide +kernel
theorem dX7_rack_31 : decode cX7_rack 31 = .ok (.invokevirtual 147, 3) := by decide +kernel
theorem dX7_rack_34 : decode cX7_rack 34 = .ok (.iconst 3, 1) := by decide +kernel
theorem dX7_rack_35 : decode cX7_rack 35 = .ok (.if_icmp .lt 6, 3) := by decide +kernel
theorem dX7_rack_38 : decode cX7_rack 38 = .ok (.bipush (-3), 2) := by decide +kernel
theorem dX7_rack_40 : decode cX7_rack 40 = .ok (.ireturn, 1) := by decide +kernel
theorem dX7_rack_41 : decode cX7_rack 41 = .ok (.aload_n 0, 1) := by decide +kernel
theorem dX7_rack_42 : decode cX7_rack 42 = .ok (.getfield 28, 3) := by decide +kernel
theorem dX7_rack_45 : decode cX7_rack 45 = .ok (.getfield 123, 3) := by decide +kernel
theorem dX7_rack_48 : decode cX7_rack 48 = .ok (.iload_n 1, 1) := by decide +kernel
theorem dX7_rack_49 : decode cX7_rack 49 = .ok (.bipush 8, 2) := by decide +kernel
theorem dX7_rack_51 : decode cX7_rack 51 = .ok (.iastore, 1) := by decide +kernel
theorem dX7_rack_52 : decode cX7_rack 52 = .ok (.aload_n 0, 1) := by decide +kernel
theorem dX7_rack_53 : decode cX7_rack 53 = .ok (.getfield 28, 3) := by decide +kernel
theorem dX7_rack_56 : decode cX7_rack 56 = .ok (.invokevirtual 147, 3) := by decide +kernel
theorem dX7_rack_59 : decode cX7_rack 59 = .ok (.ireturn, 1) := by decide +kernel
set_option maxRecDepth 20000 in
theorem ggX7_basket_X7_isPiece : GoodIn wsX7_basket wsX7_isPiece := goodIn_r _ [7, 8, 9, 10, 11, 6, 12, 13, 14, 15, 16, 17, 18, 19, 20, 21, 22, 30, 31, 32, 33, 34, 35, 36, 37, 38] (by decide +kernel) (by decide +kernel)
set_option maxRecDepth 20000 in
theorem gX7_basket_X7_isPiece : GoodIn wsX7_basket (wsV RX7 103 RX7 yX7_isPiece wsX7_isPiece) := goodIn_app (goodIn_of _ (by decide +kernel)) ggX7_basket_X7_isPiece
theorem dX7_basket_0 : decode cX7_basket 0 = .ok (.aload_n 0, 1) := by decide +kernel
theorem dX7_basket_1 : decode cX7_basket 1 = .ok (.iload_n 1, 1) := by decide +kernel
theorem dX7_basket_2 : decode cX7_basket 2 = .ok (.invokevirtual 103, 3) := by decide +kernel
theorem dX7_basket_5 : decode cX7_basket 5 = .ok (.ifCond .ne 5, 3) := by decide +kernel
theorem dX7_basket_8 : decode cX7_basket 8 = .ok (.iconst (-1), 1) := by decide +kernel
theorem dX7_basket_9 : decode cX7_basket 9 = .ok (.ireturn, 1) := by decide +kernel
theorem dX7_basket_10 : decode cX7_basket 10 = .ok (.aload_n 0, 1) := by decide +kernel
theorem dX7_basket_11 : decode cX7_basket 11 = .ok (.getfield 28, 3) := by decide +kernel
theorem dX7_basket_14 : decode cX7_basket 14 = .ok (.getfield 123, 3) := by decide +kernel
theorem dX7_basket_17 : decode cX7_basket 17 = .ok (.iload_n 1, 1) := by decide +kernel
theorem dX7_basket_18 : decode cX7_basket 18 = .ok (.iaload, 1) := by decide +kernel
theorem dX7_basket_19 : decode cX7_basket 19 = .ok (.bipush 9, 2) := by decide +kernel
theorem dX7_basket_21 : decode cX7_basket 21 = .ok (.if_icmp .ne 6, 3) := by decide +kernel
theorem dX7_basket_24 : decode cX7_basket 24 = .ok (.bipush (-2), 2) := by decide +kernel
theorem dX7_basket_26 : decode cX7_basket 26 = .ok (.ireturn, 1) := by decide +kernel
theorem dX7_basket_27 : decode cX7_basket 27 = .ok (.aload_n 0, 1) := by decide +kernel
theorem dX7_basket_28 : decode cX7_basket 28 = .ok (.getfield 28, 3) := by decide +kernel
theorem dX7_basket_31 : decode cX7_basket 31 = .ok (.getfield 123, 3) := by decide +kernel
theorem dX7_basket_34 : decode cX7_basket 34 = .ok (.iload_n 1, 1) := by decide +kernel
theorem dX7_basket_35 : decode cX7_basket 35 = .ok (.bipush 9, 2) := by decide +kernel
theorem dX7_basket_37 : decode cX7_basket 37 = .ok (.iastore, 1) := by decide +kernel
theorem dX7_basket_38 : decode cX7_basket 38 = .ok (.iconst 1, 1) := by decide +kernel
theorem dX7_basket_39 : decode cX7_basket 39 = .ok (.ireturn, 1) := by decide +kernel
set_option maxRecDepth 20000 in
theorem ggX7_go_X7_within : GoodIn wsX7_go wsX7_within := goodIn_r _ [6] (by decide +kernel) (by decide +kernel)
set_option maxRecDepth 20000 in
theorem gX7_go_X7_within : GoodIn wsX7_go (va_wsS RX7 75 yX7_within wsX7_within) := goodIn_app (goodIn_of _ (by decide +kernel)) ggX7_go_X7_within
set_option maxRecDepth 20000 in
theorem ggX7_go_X3_pass : GoodIn wsX7_go wsX3_pass := goodIn_r _ [11, 12, 13, 14, 15, 16, 17, 18, 19, 20, 21, 22, 23, 24, 25, 26, 27, 28, 4, 5, 6, 29, 30, 31, 10, 32, 33, 34, 35, 36, 37, 38, 39, 40, 41, 42, 43, 44, 45, 46, 47, 48, 49, 50, 51, 52, 53, 54, 65, 66, 67, 68, 69, 70, 71, 72, 73, 74, 75, 76, 77, 78, 79, 80] (by decide +kernel) (by decide +kernel)
set_option maxRecDepth 20000 in
theorem gX7_go_X3_pass : GoodIn wsX7_go (wsV RX7 153 RX3 yX3_pass wsX3_pass) := goodIn_app (goodIn_of _ (by decide +kernel)) ggX7_go_X3_pass
theorem dX7_go_0 : decode cX7_go 0 = .ok (.iload_n 1, 1) := by decide +kernel
theorem dX7_go_1 : decode cX7_go 1 = .ok (.iconst 1, 1) := by decide +kernel
theorem dX7_go_2 : decode cX7_go 2 = .ok (.bipush 99, 2) := by decide +kernel
theorem dX7_go_4 : decode cX7_go 4 = .ok (.invokestatic 75, 3) := by decide +kernel
theorem dX7_go_7 : decode cX7_go 7 = .ok (.ifCond .ne 5, 3) := by decide +kernel
theorem dX7_go_10 : decode cX7_go 10 = .ok (.iconst (-1), 1) := by decide +kernel
theorem dX7_go_11 : decode cX7_go 11 = .ok (.ireturn, 1) := by decide +kernel
theorem dX7_go_12 : decode cX7_go 12 = .ok (.aload_n 0, 1) := by decide +kernel
theorem dX7_go_13 : decode cX7_go 13 = .ok (.getfield 28, 3) := by decide +kernel
theorem dX7_go_16 : decode cX7_go 16 = .ok (.getfield 150, 3) := by decide +kernel
theorem dX7_go_19 : decode cX7_go 19 = .ok (.bipush 99, 2) := by decide +kernel
theorem dX7_go_21 : decode cX7_go 21 = .ok (.if_icmp .lt 6, 3) := by decide +kernel
theorem dX7_go_24 : decode cX7_go 24 = .ok (.bipush (-2), 2) := by decide +kernel
theorem dX7_go_26 : decode cX7_go 26 = .ok (.ireturn, 1) := by decide +kernel
theorem dX7_go_27 : decode cX7_go 27 = .ok (.iconst 0, 1) := by decide +kernel
theorem dX7_go_28 : decode cX7_go 28 = .ok (.istore_n 2, 1) := by decide +kernel
theorem dX7_go_29 : decode cX7_go 29 = .ok (.iconst 0, 1) := by decide +kernel
theorem dX7_go_30 : decode cX7_go 30 = .ok (.istore_n 3, 1) := by decide +kernel
theorem dX7_go_31 : decode cX7_go 31 = .ok (.iload_n 3, 1) := by decide +kernel
theorem dX7_go_32 : decode cX7_go 32 = .ok (.iload_n 1, 1) := by decide +kernel
theorem dX7_go_33 : decode cX7_go 33 = .ok (.if_icmp .ge 31, 3) := by decide +kernel
theorem dX7_go_36 : decode cX7_go 36 = .ok (.aload_n 0, 1) := by decide +kernel
theorem dX7_go_37 : decode cX7_go 37 = .ok (.getfield 28, 3) := by decide +kernel
theorem dX7_go_40 : decode cX7_go 40 = .ok (.getfield 150, 3) := by decide +kernel
theorem dX7_go_43 : decode cX7_go 43 = .ok (.bipush 99, 2) := by decide +kernel
theorem dX7_go_45 : decode cX7_go 45 = .ok (.if_icmp .ge 19, 3) := by decide +kernel
theorem dX7_go_48 : decode cX7_go 48 = .ok (.iload_n 2, 1) := by decide +kernel
theorem dX7_go_49 : decode cX7_go 49 = .ok (.aload_n 0, 1) := by decide +kernel
theorem dX7_go_50 : decode cX7_go 50 = .ok (.getfield 28, 3) := by decide +kernel
theorem dX7_go_53 : decode cX7_go 53 = .ok (.invokevirtual 153, 3) := by decide +kernel
theorem dX7_go_56 : decode cX7_go 56 = .ok (.iadd, 1) := by decide +kernel
theorem dX7_go_57 : decode cX7_go 57 = .ok (.istore_n 2, 1) := by decide +kernel
theorem dX7_go_58 : decode cX7_go 58 = .ok (.iinc 3 1, 3) := by decide +kernel
theorem dX7_go_61 : decode cX7_go 61 = .ok (.goto (-30), 3) := by decide +kernel
theorem dX7_go_64 : decode cX7_go 64 = .ok (.iload_n 2, 1) := by decide +kernel
theorem dX7_go_65 : decode cX7_go 65 = .ok (.ireturn, 1) := by decide +kernel
set_option maxRecDepth 20000 in
theorem ggX7_now_X3_allWater : GoodIn wsX7_now wsX3_allWater := goodIn_r _ [8, 9, 10, 11, 44, 45, 46, 47, 48, 49, 50, 51, 52, 53, 54, 55, 56, 57, 58, 59] (by decide +kernel) (by decide +kernel)
set_option maxRecDepth 20000 in
theorem gX7_now_X3_allWater : GoodIn wsX7_now (wsV RX7 159 RX3 yX3_allWater wsX3_allWater) := goodIn_app (goodIn_of _ (by decide +kernel)) ggX7_now_X3_allWater
set_option maxRecDepth 20000 in
theorem ggX7_now_X3_onLine : GoodIn wsX7_now wsX3_onLine := goodIn_r _ [15, 9, 10, 16, 17, 18, 7, 19, 20, 21, 22, 23, 24, 44, 45, 46, 47, 48, 49, 50, 51, 52, 53, 54, 55, 56, 57, 58, 59] (by decide +kernel) (by decide +kernel)
set_option maxRecDepth 20000 in
theorem gX7_now_X3_onLine : GoodIn wsX7_now (wsV RX7 162 RX3 yX3_onLine wsX3_onLine) := goodIn_app (goodIn_of _ (by decide +kernel)) ggX7_now_X3_onLine
set_option maxRecDepth 20000 in
theorem ggX7_now_X3_howManyDry : GoodIn wsX7_now wsX3_howManyDry := goodIn_r _ [28, 9, 10, 11, 44, 45, 46, 47, 48, 49, 50, 51, 52, 53, 54, 55, 56, 57, 58, 59] (by decide +kernel) (by decide +kernel)
set_option maxRecDepth 20000 in
theorem gX7_now_X3_howManyDry : GoodIn wsX7_now (wsV RX7 165 RX3 yX3_howManyDry wsX3_howManyDry) := goodIn_app (goodIn_of _ (by decide +kernel)) ggX7_now_X3_howManyDry
set_option maxRecDepth 20000 in
theorem ggX7_now_X3_howManySmell : GoodIn wsX7_now wsX3_howManySmell := goodIn_r _ [32, 9, 10, 33, 44, 45, 46, 47, 48, 49, 50, 51, 52, 53, 54, 55, 56, 57, 58, 59] (by decide +kernel) (by decide +kernel)
set_option maxRecDepth 20000 in
theorem gX7_now_X3_howManySmell : GoodIn wsX7_now (wsV RX7 168 RX3 yX3_howManySmell wsX3_howManySmell) := goodIn_app (goodIn_of _ (by decide +kernel)) ggX7_now_X3_howManySmell
theorem dX7_now_0 : decode cX7_now 0 = .ok (.iload_n 1, 1) := by decide +kernel
theorem dX7_now_1 : decode cX7_now 1 = .ok (.tableswitch 87 0 5 #[39, 47, 55, 63, 71, 79], 39) := by decide +kernel
theorem dX7_now_40 : decode cX7_now 40 = .ok (.aload_n 0, 1) := by decide +kernel
theorem dX7_now_41 : decode cX7_now 41 = .ok (.getfield 28, 3) := by decide +kernel
theorem dX7_now_44 : decode cX7_now 44 = .ok (.getfield 150, 3) := by decide +kernel
theorem dX7_now_47 : decode cX7_now 47 = .ok (.ireturn, 1) := by decide +kernel
theorem dX7_now_48 : decode cX7_now 48 = .ok (.aload_n 0, 1) := by decide +kernel
theorem dX7_now_49 : decode cX7_now 49 = .ok (.getfield 28, 3) := by decide +kernel
theorem dX7_now_52 : decode cX7_now 52 = .ok (.getfield 156, 3) := by decide +kernel
theorem dX7_now_55 : decode cX7_now 55 = .ok (.ireturn, 1) := by decide +kernel
theorem dX7_now_56 : decode cX7_now 56 = .ok (.aload_n 0, 1) := by decide +kernel
theorem dX7_now_57 : decode cX7_now 57 = .ok (.getfield 28, 3) := by decide +kernel
theorem dX7_now_60 : decode cX7_now 60 = .ok (.invokevirtual 159, 3) := by decide +kernel
theorem dX7_now_63 : decode cX7_now 63 = .ok (.ireturn, 1) := by decide +kernel
theorem dX7_now_64 : decode cX7_now 64 = .ok (.aload_n 0, 1) := by decide +kernel
theorem dX7_now_65 : decode cX7_now 65 = .ok (.getfield 28, 3) := by decide +kernel
theorem dX7_now_68 : decode cX7_now 68 = .ok (.invokevirtual 162, 3) := by decide +kernel
theorem dX7_now_71 : decode cX7_now 71 = .ok (.ireturn, 1) := by decide +kernel
theorem dX7_now_72 : decode cX7_now 72 = .ok (.aload_n 0, 1) := by decide +kernel
theorem dX7_now_73 : decode cX7_now 73 = .ok (.getfield 28, 3) := by decide +kernel
theorem dX7_now_76 : decode cX7_now 76 = .ok (.invokevirtual 165, 3) := by decide +kernel
theorem dX7_now_79 : decode cX7_now 79 = .ok (.ireturn, 1) := by decide +kernel
theorem dX7_now_80 : decode cX7_now 80 = .ok (.aload_n 0, 1) := by decide +kernel
theorem dX7_now_81 : decode cX7_now 81 = .ok (.getfield 28, 3) := by decide +kernel
theorem dX7_now_84 : decode cX7_now 84 = .ok (.invokevirtual 168, 3) := by decide +kernel
theorem dX7_now_87 : decode cX7_now 87 = .ok (.ireturn, 1) := by decide +kernel
theorem dX7_now_88 : decode cX7_now 88 = .ok (.iconst (-1), 1) := by decide +kernel
theorem dX7_now_89 : decode cX7_now 89 = .ok (.ireturn, 1) := by decide +kernel
set_option maxRecDepth 20000 in
theorem ggX7_anew_X3_begin : GoodIn wsX7_anew wsX3_begin := goodIn_r _ [7, 8, 9, 10, 11, 12, 13, 14, 15, 16, 27, 28, 29, 30, 31, 32, 33, 34, 35, 36, 37, 38, 39, 40, 41, 42] (by decide +kernel) (by decide +kernel)
set_option maxRecDepth 20000 in
theorem gX7_anew_X3_begin : GoodIn wsX7_anew (wsV RX7 100 RX3 yX3_begin wsX3_begin) := goodIn_app (goodIn_of _ (by decide +kernel)) ggX7_anew_X3_begin
theorem dX7_anew_0 : decode cX7_anew 0 = .ok (.aload_n 0, 1) := by decide +kernel
theorem dX7_anew_1 : decode cX7_anew 1 = .ok (.getfield 28, 3) := by decide +kernel
theorem dX7_anew_4 : decode cX7_anew 4 = .ok (.getfield 150, 3) := by decide +kernel
theorem dX7_anew_7 : decode cX7_anew 7 = .ok (.istore_n 1, 1) := by decide +kernel
theorem dX7_anew_8 : decode cX7_anew 8 = .ok (.aload_n 0, 1) := by decide +kernel
theorem dX7_anew_9 : decode cX7_anew 9 = .ok (.getfield 28, 3) := by decide +kernel
theorem dX7_anew_12 : decode cX7_anew 12 = .ok (.invokevirtual 100, 3) := by decide +kernel
theorem dX7_anew_15 : decode cX7_anew 15 = .ok (.iload_n 1, 1) := by decide +kernel
theorem dX7_anew_16 : decode cX7_anew 16 = .ok (.ireturn, 1) := by decide +kernel
set_option maxRecDepth 20000 in
theorem ggX7_when_X7_isPiece : GoodIn wsX7_when wsX7_isPiece := goodIn_r _ [5, 6, 7, 8, 9, 4, 10, 70, 71, 72, 73, 74, 75, 76, 77, 78, 79, 80, 81, 82, 83, 84, 85, 86, 87, 88] (by decide +kernel) (by decide +kernel)
set_option maxRecDepth 20000 in
theorem gX7_when_X7_isPiece : GoodIn wsX7_when (wsV RX7 103 RX7 yX7_isPiece wsX7_isPiece) := goodIn_app (goodIn_of _ (by decide +kernel)) ggX7_when_X7_isPiece
set_option maxRecDepth 20000 in
theorem ggX7_when_X7_firstOrLast : GoodIn wsX7_when wsX7_firstOrLast := goodIn_r _ [14, 15, 16, 17, 18, 19, 20, 21, 22, 23, 24, 25, 26, 27, 28, 29, 30, 8, 9, 4, 10, 31, 32, 33, 34, 35, 36, 37, 38, 39, 40, 41, 42, 43, 44, 45, 46, 47, 48, 49, 50, 51, 52, 53, 54, 55, 56, 57, 58, 59, 60, 61, 62, 63, 64, 65, 66, 67, 68, 69, 70, 71, 72, 73, 74, 75, 76, 77, 78, 79, 89, 90, 91, 92, 93, 94, 95, 80, 81, 82, 83, 84, 85, 86, 87, 88] (by decide +kernel) (by decide +kernel)
set_option maxRecDepth 20000 in
theorem gX7_when_X7_firstOrLast : GoodIn wsX7_when (wsV RX7 171 RX7 yX7_firstOrLast wsX7_firstOrLast) := goodIn_app (goodIn_of _ (by decide +kernel)) ggX7_when_X7_firstOrLast
theorem dX7_when_0 : decode cX7_when 0 = .ok (.aload_n 0, 1) := by decide +kernel
theorem dX7_when_1 : decode cX7_when 1 = .ok (.iload_n 1, 1) := by decide +kernel
theorem dX7_when_2 : decode cX7_when 2 = .ok (.invokevirtual 103, 3) := by decide +kernel
theorem dX7_when_5 : decode cX7_when 5 = .ok (.ifCond .eq 14, 3) := by decide +kernel
theorem dX7_when_8 : decode cX7_when 8 = .ok (.aload_n 0, 1) := by decide +kernel
theorem dX7_when_9 : decode cX7_when 9 = .ok (.iload_n 1, 1) := by decide +kernel
theorem dX7_when_10 : decode cX7_when 10 = .ok (.iconst 0, 1) := by decide +kernel
theorem dX7_when_11 : decode cX7_when 11 = .ok (.iconst 0, 1) := by decide +kernel
theorem dX7_when_12 : decode cX7_when 12 = .ok (.iconst 0, 1) := by decide +kernel
theorem dX7_when_13 : decode cX7_when 13 = .ok (.invokevirtual 171, 3) := by decide +kernel
theorem dX7_when_16 : decode cX7_when 16 = .ok (.goto 4, 3) := by decide +kernel
theorem dX7_when_19 : decode cX7_when 19 = .ok (.iconst (-1), 1) := by decide +kernel
theorem dX7_when_20 : decode cX7_when 20 = .ok (.ireturn, 1) := by decide +kernel
set_option maxRecDepth 20000 in
theorem ggX7_damp_X7_isPiece : GoodIn wsX7_damp wsX7_isPiece := goodIn_r _ [5, 6, 7, 8, 9, 4, 10, 70, 71, 72, 73, 74, 75, 76, 77, 78, 79, 80, 81, 82, 83, 84, 85, 86, 87, 88] (by decide +kernel) (by decide +kernel)
set_option maxRecDepth 20000 in
theorem gX7_damp_X7_isPiece : GoodIn wsX7_damp (wsV RX7 103 RX7 yX7_isPiece wsX7_isPiece) := goodIn_app (goodIn_of _ (by decide +kernel)) ggX7_damp_X7_isPiece
set_option maxRecDepth 20000 in
theorem ggX7_damp_X7_within : GoodIn wsX7_damp wsX7_within := goodIn_r _ [10] (by decide +kernel) (by decide +kernel)
set_option maxRecDepth 20000 in
theorem gX7_damp_X7_within : GoodIn wsX7_damp (va_wsS RX7 75 yX7_within wsX7_within) := goodIn_app (goodIn_of _ (by decide +kernel)) ggX7_damp_X7_within
set_option maxRecDepth 20000 in
theorem ggX7_damp_X7_firstOrLast : GoodIn wsX7_damp wsX7_firstOrLast := goodIn_r _ [14, 15, 16, 17, 18, 19, 20, 21, 22, 23, 24, 25, 26, 27, 28, 29, 30, 8, 9, 4, 10, 31, 32, 33, 34, 35, 36, 37, 38, 39, 40, 41, 42, 43, 44, 45, 46, 47, 48, 49, 50, 51, 52, 53, 54, 55, 56, 57, 58, 59, 60, 61, 62, 63, 64, 65, 66, 67, 68, 69, 70, 71, 72, 73, 74, 75, 76, 77, 78, 79, 89, 90, 91, 92, 93, 94, 95, 80, 81, 82, 83, 84, 85, 86, 87, 88] (by decide +kernel) (by decide +kernel)
set_option maxRecDepth 20000 in
theorem gX7_damp_X7_firstOrLast : GoodIn wsX7_damp (wsV RX7 171 RX7 yX7_firstOrLast wsX7_firstOrLast) := goodIn_app (goodIn_of _ (by decide +kernel)) ggX7_damp_X7_firstOrLast
theorem dX7_damp_0 : decode cX7_damp 0 = .ok (.aload_n 0, 1) := by decide +kernel
theorem dX7_damp_1 : decode cX7_damp 1 = .ok (.iload_n 1, 1) := by decide +kernel
theorem dX7_damp_2 : decode cX7_damp 2 = .ok (.invokevirtual 103, 3) := by decide +kernel
theorem dX7_damp_5 : decode cX7_damp 5 = .ok (.ifCond .eq 33, 3) := by decide +kernel
theorem dX7_damp_8 : decode cX7_damp 8 = .ok (.iload_n 2, 1) := by decide +kernel
theorem dX7_damp_9 : decode cX7_damp 9 = .ok (.iconst 0, 1) := by decide +kernel
theorem dX7_damp_10 : decode cX7_damp 10 = .ok (.bipush 99, 2) := by decide +kernel
theorem dX7_damp_12 : decode cX7_damp 12 = .ok (.invokestatic 75, 3) := by decide +kernel
theorem dX7_damp_15 : decode cX7_damp 15 = .ok (.ifCond .eq 23, 3) := by decide +kernel
theorem dX7_damp_18 : decode cX7_damp 18 = .ok (.iload_n 3, 1) := by decide +kernel
theorem dX7_damp_19 : decode cX7_damp 19 = .ok (.iload_n 2, 1) := by decide +kernel
theorem dX7_damp_20 : decode cX7_damp 20 = .ok (.bipush 99, 2) := by decide +kernel
theorem dX7_damp_22 : decode cX7_damp 22 = .ok (.invokestatic 75, 3) := by decide +kernel
theorem dX7_damp_25 : decode cX7_damp 25 = .ok (.ifCond .eq 13, 3) := by decide +kernel
theorem dX7_damp_28 : decode cX7_damp 28 = .ok (.iload 4, 2) := by decide +kernel
theorem dX7_damp_30 : decode cX7_damp 30 = .ok (.iconst 0, 1) := by decide +kernel
theorem dX7_damp_31 : decode cX7_damp 31 = .ok (.iconst 1, 1) := by decide +kernel
theorem dX7_damp_32 : decode cX7_damp 32 = .ok (.invokestatic 75, 3) := by decide +kernel
theorem dX7_damp_35 : decode cX7_damp 35 = .ok (.ifCond .ne 5, 3) := by decide +kernel
theorem dX7_damp_38 : decode cX7_damp 38 = .ok (.iconst (-1), 1) := by decide +kernel
theorem dX7_damp_39 : decode cX7_damp 39 = .ok (.ireturn, 1) := by decide +kernel
theorem dX7_damp_40 : decode cX7_damp 40 = .ok (.aload_n 0, 1) := by decide +kernel
theorem dX7_damp_41 : decode cX7_damp 41 = .ok (.iload_n 1, 1) := by decide +kernel
theorem dX7_damp_42 : decode cX7_damp 42 = .ok (.iload_n 2, 1) := by decide +kernel
theorem dX7_damp_43 : decode cX7_damp 43 = .ok (.iload_n 3, 1) := by decide +kernel
theorem dX7_damp_44 : decode cX7_damp 44 = .ok (.iload 4, 2) := by decide +kernel
theorem dX7_damp_46 : decode cX7_damp 46 = .ok (.invokevirtual 171, 3) := by decide +kernel
theorem dX7_damp_49 : decode cX7_damp 49 = .ok (.ireturn, 1) := by decide +kernel
set_option maxRecDepth 20000 in
theorem ggX7_where_X7_within : GoodIn wsX7_where wsX7_within := goodIn_r _ [7] (by decide +kernel) (by decide +kernel)
set_option maxRecDepth 20000 in
theorem gX7_where_X7_within : GoodIn wsX7_where (va_wsS RX7 75 yX7_within wsX7_within) := goodIn_app (goodIn_of _ (by decide +kernel)) ggX7_where_X7_within
set_option maxRecDepth 20000 in
theorem ggX7_where_X7_isPiece : GoodIn wsX7_where wsX7_isPiece := goodIn_r _ [11, 12, 13, 4, 5, 6, 7, 116, 117, 118, 119, 120, 121, 122, 123, 124, 125, 136, 137, 138, 139, 140, 141, 142, 143, 144] (by decide +kernel) (by decide +kernel)
set_option maxRecDepth 20000 in
theorem gX7_where_X7_isPiece : GoodIn wsX7_where (wsV RX7 103 RX7 yX7_isPiece wsX7_isPiece) := goodIn_app (goodIn_of _ (by decide +kernel)) ggX7_where_X7_isPiece
set_option maxRecDepth 20000 in
theorem ggX7_where_X1_search : GoodIn wsX7_where wsX1_search := goodIn_r _ [18, 19, 20, 21, 22, 23, 24, 25, 17, 26, 27, 28, 29, 30, 31, 32, 33, 34, 35, 36, 37, 38, 39, 40, 41, 42, 43, 44, 45, 46, 47, 48, 49, 50, 51, 52, 53, 54, 55, 56, 57, 58, 59, 60, 61, 62, 63, 64, 65, 66, 67, 68, 69, 70, 71, 72, 73, 74, 75, 76, 77, 5, 6, 7, 78, 79, 80, 81, 82, 83, 84, 85, 86, 87, 88, 89, 90, 91, 92, 93, 94, 95, 96, 97, 98, 99, 100, 101, 102, 103, 104, 105, 106, 107, 108, 109, 110, 111, 112, 113, 114, 115, 126, 127, 128, 129, 130, 131, 132, 133, 134, 135, 136, 137, 138, 139, 140, 141, 142, 143, 144, 145, 146, 147, 148, 149, 150, 151] (by decide +kernel) (by decide +kernel)
set_option maxRecDepth 20000 in
theorem gX7_where_X1_search : GoodIn wsX7_where (wsV RX7 175 RX1 yX1_search wsX1_search) := goodIn_app (goodIn_of _ (by decide +kernel)) ggX7_where_X1_search
theorem dX7_where_0 : decode cX7_where 0 = .ok (.iload_n 1, 1) := by decide +kernel
theorem dX7_where_1 : decode cX7_where 1 = .ok (.iconst 1, 1) := by decide +kernel
theorem dX7_where_2 : decode cX7_where 2 = .ok (.bipush 24, 2) := by decide +kernel
theorem dX7_where_4 : decode cX7_where 4 = .ok (.invokestatic 75, 3) := by decide +kernel
theorem dX7_where_7 : decode cX7_where 7 = .ok (.ifCond .eq 16, 3) := by decide +kernel
theorem dX7_where_10 : decode cX7_where 10 = .ok (.iload_n 2, 1) := by decide +kernel
theorem dX7_where_11 : decode cX7_where 11 = .ok (.iconst (-1), 1) := by decide +kernel
theorem dX7_where_12 : decode cX7_where 12 = .ok (.if_icmp .eq 13, 3) := by decide +kernel
theorem dX7_where_15 : decode cX7_where 15 = .ok (.aload_n 0, 1) := by decide +kernel
theorem dX7_where_16 : decode cX7_where 16 = .ok (.iload_n 2, 1) := by decide +kernel
theorem dX7_where_17 : decode cX7_where 17 = .ok (.invokevirtual 103, 3) := by decide +kernel
theorem dX7_where_20 : decode cX7_where 20 = .ok (.ifCond .ne 5, 3) := by decide +kernel
theorem dX7_where_23 : decode cX7_where 23 = .ok (.iconst (-1), 1) := by decide +kernel
theorem dX7_where_24 : decode cX7_where 24 = .ok (.ireturn, 1) := by decide +kernel
theorem dX7_where_25 : decode cX7_where 25 = .ok (.aload_n 0, 1) := by decide +kernel
theorem dX7_where_26 : decode cX7_where 26 = .ok (.getfield 48, 3) := by decide +kernel
theorem dX7_where_29 : decode cX7_where 29 = .ok (.iload_n 1, 1) := by decide +kernel
theorem dX7_where_30 : decode cX7_where 30 = .ok (.invokevirtual 175, 3) := by decide +kernel
theorem dX7_where_33 : decode cX7_where 33 = .ok (.iload_n 2, 1) := by decide +kernel
theorem dX7_where_34 : decode cX7_where 34 = .ok (.iconst (-1), 1) := by decide +kernel
theorem dX7_where_35 : decode cX7_where 35 = .ok (.if_icmp .ne 13, 3) := by decide +kernel
theorem dX7_where_38 : decode cX7_where 38 = .ok (.aload_n 0, 1) := by decide +kernel
theorem dX7_where_39 : decode cX7_where 39 = .ok (.getfield 48, 3) := by decide +kernel
theorem dX7_where_42 : decode cX7_where 42 = .ok (.getfield 179, 3) := by decide +kernel
theorem dX7_where_45 : decode cX7_where 45 = .ok (.goto 12, 3) := by decide +kernel
theorem dX7_where_48 : decode cX7_where 48 = .ok (.aload_n 0, 1) := by decide +kernel
theorem dX7_where_49 : decode cX7_where 49 = .ok (.getfield 48, 3) := by decide +kernel
theorem dX7_where_52 : decode cX7_where 52 = .ok (.getfield 182, 3) := by decide +kernel
theorem dX7_where_55 : decode cX7_where 55 = .ok (.iload_n 2, 1) := by decide +kernel
theorem dX7_where_56 : decode cX7_where 56 = .ok (.iaload, 1) := by decide +kernel
theorem dX7_where_57 : decode cX7_where 57 = .ok (.ireturn, 1) := by decide +kernel
set_option maxRecDepth 20000 in
theorem ggX7_order_X7_within : GoodIn wsX7_order wsX7_within := goodIn_r _ [8] (by decide +kernel) (by decide +kernel)
set_option maxRecDepth 20000 in
theorem gX7_order_X7_within : GoodIn wsX7_order (va_wsS RX7 75 yX7_within wsX7_within) := goodIn_app (goodIn_of _ (by decide +kernel)) ggX7_order_X7_within
set_option maxRecDepth 20000 in
theorem ggX7_order_X5_search : GoodIn wsX7_order wsX5_search := goodIn_r _ [13, 14, 15, 16, 17, 18, 19, 20, 21, 22, 23, 24, 25, 26, 27, 28, 29, 30, 31, 32, 6, 7, 8, 33, 34, 35, 36, 37, 38, 39, 12, 40, 41, 42, 43, 44, 45, 46, 47, 48, 49, 50, 51, 52, 53, 54, 55, 56, 57, 58, 59, 60, 61, 62, 63, 64, 65, 76, 77, 78, 79, 80, 81, 82, 83, 84, 85, 86, 87, 88, 89, 90, 91, 92, 93, 94, 95, 96, 97, 98, 99] (by decide +kernel) (by decide +kernel)
set_option maxRecDepth 20000 in
theorem gX7_order_X5_search : GoodIn wsX7_order (wsV RX7 185 RX5 yX5_search wsX5_search) := goodIn_app (goodIn_of _ (by decide +kernel)) ggX7_order_X5_search
theorem dX7_order_0 : decode cX7_order 0 = .ok (.iload_n 1, 1) := by decide +kernel
theorem dX7_order_1 : decode cX7_order 1 = .ok (.iconst 1, 1) := by decide +kernel
theorem dX7_order_2 : decode cX7_order 2 = .ok (.bipush 9, 2) := by decide +kernel
theorem dX7_order_4 : decode cX7_order 4 = .ok (.invokestatic 75, 3) := by decide +kernel
theorem dX7_order_7 : decode cX7_order 7 = .ok (.ifCond .eq 12, 3) := by decide +kernel
theorem dX7_order_10 : decode cX7_order 10 = .ok (.iload_n 2, 1) := by decide +kernel
theorem dX7_order_11 : decode cX7_order 11 = .ok (.iconst (-1), 1) := by decide +kernel
theorem dX7_order_12 : decode cX7_order 12 = .ok (.iconst 5, 1) := by decide +kernel
theorem dX7_order_13 : decode cX7_order 13 = .ok (.invokestatic 75, 3) := by decide +kernel
theorem dX7_order_16 : decode cX7_order 16 = .ok (.ifCond .ne 5, 3) := by decide +kernel
theorem dX7_order_19 : decode cX7_order 19 = .ok (.iconst (-1), 1) := by decide +kernel
theorem dX7_order_20 : decode cX7_order 20 = .ok (.ireturn, 1) := by decide +kernel
theorem dX7_order_21 : decode cX7_order 21 = .ok (.aload_n 0, 1) := by decide +kernel
theorem dX7_order_22 : decode cX7_order 22 = .ok (.getfield 57, 3) := by decide +kernel
theorem dX7_order_25 : decode cX7_order 25 = .ok (.iload_n 1, 1) := by decide +kernel
theorem dX7_order_26 : decode cX7_order 26 = .ok (.invokevirtual 185, 3) := by decide +kernel
theorem dX7_order_29 : decode cX7_order 29 = .ok (.iload_n 2, 1) := by decide +kernel
theorem dX7_order_30 : decode cX7_order 30 = .ok (.iconst (-1), 1) := by decide +kernel
theorem dX7_order_31 : decode cX7_order 31 = .ok (.if_icmp .ne 11, 3) := by decide +kernel
theorem dX7_order_34 : decode cX7_order 34 = .ok (.aload_n 0, 1) := by decide +kernel
theorem dX7_order_35 : decode cX7_order 35 = .ok (.getfield 57, 3) := by decide +kernel
theorem dX7_order_38 : decode cX7_order 38 = .ok (.getfield 186, 3) := by decide +kernel
theorem dX7_order_41 : decode cX7_order 41 = .ok (.ireturn, 1) := by decide +kernel
theorem dX7_order_42 : decode cX7_order 42 = .ok (.iload_n 2, 1) := by decide +kernel
theorem dX7_order_43 : decode cX7_order 43 = .ok (.aload_n 0, 1) := by decide +kernel
theorem dX7_order_44 : decode cX7_order 44 = .ok (.getfield 57, 3) := by decide +kernel
theorem dX7_order_47 : decode cX7_order 47 = .ok (.getfield 187, 3) := by decide +kernel
theorem dX7_order_50 : decode cX7_order 50 = .ok (.if_icmp .ge 15, 3) := by decide +kernel
theorem dX7_order_53 : decode cX7_order 53 = .ok (.aload_n 0, 1) := by decide +kernel
theorem dX7_order_54 : decode cX7_order 54 = .ok (.getfield 57, 3) := by decide +kernel
theorem dX7_order_57 : decode cX7_order 57 = .ok (.getfield 190, 3) := by decide +kernel
theorem dX7_order_60 : decode cX7_order 60 = .ok (.iload_n 2, 1) := by decide +kernel
theorem dX7_order_61 : decode cX7_order 61 = .ok (.iaload, 1) := by decide +kernel
theorem dX7_order_62 : decode cX7_order 62 = .ok (.goto 5, 3) := by decide +kernel
theorem dX7_order_65 : decode cX7_order 65 = .ok (.bipush (-9), 2) := by decide +kernel
theorem dX7_order_67 : decode cX7_order 67 = .ok (.ireturn, 1) := by decide +kernel
set_option maxRecDepth 20000 in
theorem ggX7_odds_X7_within : GoodIn wsX7_odds wsX7_within := goodIn_r _ [7] (by decide +kernel) (by decide +kernel)
set_option maxRecDepth 20000 in
theorem gX7_odds_X7_within : GoodIn wsX7_odds (va_wsS RX7 75 yX7_within wsX7_within) := goodIn_app (goodIn_of _ (by decide +kernel)) ggX7_odds_X7_within
set_option maxRecDepth 20000 in
theorem ggX7_odds_X3_onLine : GoodIn wsX7_odds wsX3_onLine := goodIn_r _ [12, 13, 14, 15, 16, 17, 11, 18, 19, 20, 5, 6, 7, 92, 93, 94, 95, 96, 97, 98, 99, 100, 101, 102, 103, 104, 105, 106, 107] (by decide +kernel) (by decide +kernel)
set_option maxRecDepth 20000 in
theorem gX7_odds_X3_onLine : GoodIn wsX7_odds (wsV RX7 162 RX3 yX3_onLine wsX3_onLine) := goodIn_app (goodIn_of _ (by decide +kernel)) ggX7_odds_X3_onLine
set_option maxRecDepth 20000 in
theorem ggX7_odds_X7_stepsWithoutRain : GoodIn wsX7_odds wsX7_stepsWithoutRain := goodIn_r _ [24, 25, 2, 26, 27, 28, 29, 30, 11, 31, 32, 33, 13, 14, 34, 35, 19, 36, 37, 38, 39, 40, 15, 16, 17, 18, 20, 5, 6, 7, 41, 42, 43, 44, 45, 46, 47, 48, 49, 50, 51, 52, 53, 54, 55, 56, 57, 58, 59, 60, 61, 62, 63, 64, 65, 66, 67, 68, 69, 70, 71, 72, 73, 74, 75, 82, 83, 84, 85, 86, 87, 88, 89, 90, 91, 92, 93, 94, 95, 96, 97, 98, 99, 100, 101, 102, 103, 104, 105, 106, 107] (by decide +kernel) (by decide +kernel)
set_option maxRecDepth 20000 in
theorem gX7_odds_X7_stepsWithoutRain : GoodIn wsX7_odds (wsV RX7 195 RX7 yX7_stepsWithoutRain wsX7_stepsWithoutRain) := goodIn_app (goodIn_of _ (by decide +kernel)) ggX7_odds_X7_stepsWithoutRain
set_option maxRecDepth 20000 in
theorem ggX7_odds_X7_commonDivisor : GoodIn wsX7_odds wsX7_commonDivisor := goodIn_r _ [78] (by decide +kernel) (by decide +kernel)
set_option maxRecDepth 20000 in
theorem gX7_odds_X7_commonDivisor : GoodIn wsX7_odds (va_wsS RX7 198 yX7_commonDivisor wsX7_commonDivisor) := goodIn_app (goodIn_of _ (by decide +kernel)) ggX7_odds_X7_commonDivisor
set_option maxRecDepth 20000 in
theorem ggX7_odds_X7_power : GoodIn wsX7_odds wsX7_power := goodIn_r _ [81] (by decide +kernel) (by decide +kernel)
set_option maxRecDepth 20000 in
theorem gX7_odds_X7_power : GoodIn wsX7_odds (va_wsS RX7 202 yX7_power wsX7_power) := goodIn_app (goodIn_of _ (by decide +kernel)) ggX7_odds_X7_power
theorem dX7_odds_0 : decode cX7_odds 0 = .ok (.iload_n 2, 1) := by decide +kernel
theorem dX7_odds_1 : decode cX7_odds 1 = .ok (.iconst 1, 1) := by decide +kernel
theorem dX7_odds_2 : decode cX7_odds 2 = .ok (.bipush 9, 2) := by decide +kernel
theorem dX7_odds_4 : decode cX7_odds 4 = .ok (.invokestatic 75, 3) := by decide +kernel
theorem dX7_odds_7 : decode cX7_odds 7 = .ok (.ifCond .eq 21, 3) := by decide +kernel
theorem dX7_odds_10 : decode cX7_odds 10 = .ok (.iload_n 1, 1) := by decide +kernel
theorem dX7_odds_11 : decode cX7_odds 11 = .ok (.iconst 0, 1) := by decide +kernel
theorem dX7_odds_12 : decode cX7_odds 12 = .ok (.iload_n 2, 1) := by decide +kernel
theorem dX7_odds_13 : decode cX7_odds 13 = .ok (.invokestatic 75, 3) := by decide +kernel
theorem dX7_odds_16 : decode cX7_odds 16 = .ok (.ifCond .eq 12, 3) := by decide +kernel
theorem dX7_odds_19 : decode cX7_odds 19 = .ok (.iload_n 3, 1) := by decide +kernel
theorem dX7_odds_20 : decode cX7_odds 20 = .ok (.iconst 0, 1) := by decide +kernel
theorem dX7_odds_21 : decode cX7_odds 21 = .ok (.iconst 1, 1) := by decide +kernel
theorem dX7_odds_22 : decode cX7_odds 22 = .ok (.invokestatic 75, 3) := by decide +kernel
theorem dX7_odds_25 : decode cX7_odds 25 = .ok (.ifCond .ne 7, 3) := by decide +kernel
theorem dX7_odds_28 : decode cX7_odds 28 = .ok (.ldc2_w 191, 3) := by decide +kernel
theorem dX7_odds_31 : decode cX7_odds 31 = .ok (.lreturn, 1) := by decide +kernel
theorem dX7_odds_32 : decode cX7_odds 32 = .ok (.aload_n 0, 1) := by decide +kernel
theorem dX7_odds_33 : decode cX7_odds 33 = .ok (.getfield 28, 3) := by decide +kernel
theorem dX7_odds_36 : decode cX7_odds 36 = .ok (.invokevirtual 162, 3) := by decide +kernel
theorem dX7_odds_39 : decode cX7_odds 39 = .ok (.ifCond .ne 7, 3) := by decide +kernel
theorem dX7_odds_42 : decode cX7_odds 42 = .ok (.ldc2_w 193, 3) := by decide +kernel
theorem dX7_odds_45 : decode cX7_odds 45 = .ok (.lreturn, 1) := by decide +kernel
theorem dX7_odds_46 : decode cX7_odds 46 = .ok (.aload_n 0, 1) := by decide +kernel
theorem dX7_odds_47 : decode cX7_odds 47 = .ok (.invokevirtual 195, 3) := by decide +kernel
theorem dX7_odds_50 : decode cX7_odds 50 = .ok (.istore 4, 2) := by decide +kernel
theorem dX7_odds_52 : decode cX7_odds 52 = .ok (.iload 4, 2) := by decide +kernel
theorem dX7_odds_54 : decode cX7_odds 54 = .ok (.bipush (-9), 2) := by decide +kernel
theorem dX7_odds_56 : decode cX7_odds 56 = .ok (.if_icmp .ne 13, 3) := by decide +kernel
theorem dX7_odds_59 : decode cX7_odds 59 = .ok (.iload_n 3, 1) := by decide +kernel
theorem dX7_odds_60 : decode cX7_odds 60 = .ok (.ifCond .ne 7, 3) := by decide +kernel
theorem dX7_odds_63 : decode cX7_odds 63 = .ok (.lconst 0, 1) := by decide +kernel
theorem dX7_odds_64 : decode cX7_odds 64 = .ok (.goto 4, 3) := by decide +kernel
theorem dX7_odds_67 : decode cX7_odds 67 = .ok (.lconst 1, 1) := by decide +kernel
theorem dX7_odds_68 : decode cX7_odds 68 = .ok (.lreturn, 1) := by decide +kernel
theorem dX7_odds_69 : decode cX7_odds 69 = .ok (.iload 4, 2) := by decide +kernel
theorem dX7_odds_71 : decode cX7_odds 71 = .ok (.bipush 18, 2) := by decide +kernel
theorem dX7_odds_73 : decode cX7_odds 73 = .ok (.if_icmp .le 7, 3) := by decide +kernel
theorem dX7_odds_76 : decode cX7_odds 76 = .ok (.ldc2_w 193, 3) := by decide +kernel
theorem dX7_odds_79 : decode cX7_odds 79 = .ok (.lreturn, 1) := by decide +kernel
theorem dX7_odds_80 : decode cX7_odds 80 = .ok (.iload_n 2, 1) := by decide +kernel
theorem dX7_odds_81 : decode cX7_odds 81 = .ok (.iload_n 1, 1) := by decide +kernel
theorem dX7_odds_82 : decode cX7_odds 82 = .ok (.isub, 1) := by decide +kernel
theorem dX7_odds_83 : decode cX7_odds 83 = .ok (.iload_n 2, 1) := by decide +kernel
theorem dX7_odds_84 : decode cX7_odds 84 = .ok (.invokestatic 198, 3) := by decide +kernel
theorem dX7_odds_87 : decode cX7_odds 87 = .ok (.istore 5, 2) := by decide +kernel
theorem dX7_odds_89 : decode cX7_odds 89 = .ok (.iload_n 3, 1) := by decide +kernel
theorem dX7_odds_90 : decode cX7_odds 90 = .ok (.ifCond .ne 9, 3) := by decide +kernel
theorem dX7_odds_93 : decode cX7_odds 93 = .ok (.iload_n 2, 1) := by decide +kernel
theorem dX7_odds_94 : decode cX7_odds 94 = .ok (.iload_n 1, 1) := by decide +kernel
theorem dX7_odds_95 : decode cX7_odds 95 = .ok (.isub, 1) := by decide +kernel
theorem dX7_odds_96 : decode cX7_odds 96 = .ok (.goto 4, 3) := by decide +kernel
theorem dX7_odds_99 : decode cX7_odds 99 = .ok (.iload_n 2, 1) := by decide +kernel
theorem dX7_odds_100 : decode cX7_odds 100 = .ok (.iload 5, 2) := by decide +kernel
theorem dX7_odds_102 : decode cX7_odds 102 = .ok (.idiv, 1) := by decide +kernel
theorem dX7_odds_103 : decode cX7_odds 103 = .ok (.iload 4, 2) := by decide +kernel
theorem dX7_odds_105 : decode cX7_odds 105 = .ok (.invokestatic 202, 3) := by decide +kernel
theorem dX7_odds_108 : decode cX7_odds 108 = .ok (.lreturn, 1) := by decide +kernel
set_option maxRecDepth 20000 in
theorem ggX7_roomFor_X7_within : GoodIn wsX7_roomFor wsX7_within := goodIn_r _ [8] (by decide +kernel) (by decide +kernel)
set_option maxRecDepth 20000 in
theorem gX7_roomFor_X7_within : GoodIn wsX7_roomFor (va_wsS RX7 75 yX7_within wsX7_within) := goodIn_app (goodIn_of _ (by decide +kernel)) ggX7_roomFor_X7_within
set_option maxRecDepth 20000 in
theorem ggX7_roomFor_X3_copy : GoodIn wsX7_roomFor wsX3_copy := goodIn_r _ [13, 14, 15, 16, 17, 18, 19, 20, 21, 84, 85, 86, 87, 88, 89, 90, 75, 76, 77, 78, 79, 80, 81, 82, 83] (by decide +kernel) (by decide +kernel)
set_option maxRecDepth 20000 in
theorem gX7_roomFor_X3_copy : GoodIn wsX7_roomFor (wsV RX7 206 RX3 yX3_copy wsX3_copy) := goodIn_app (goodIn_of _ (by decide +kernel)) ggX7_roomFor_X3_copy
set_option maxRecDepth 20000 in
theorem ggX7_roomFor_X3_wetOnLine : GoodIn wsX7_roomFor wsX3_wetOnLine := goodIn_r _ [25, 16, 17, 18, 26, 27, 28, 12, 29, 20, 30, 6, 7, 8, 84, 85, 86, 87, 88, 89, 90, 75, 76, 77, 78, 79, 80, 81, 82, 83] (by decide +kernel) (by decide +kernel)
set_option maxRecDepth 20000 in
theorem gX7_roomFor_X3_wetOnLine : GoodIn wsX7_roomFor (wsV RX7 212 RX3 yX3_wetOnLine wsX3_wetOnLine) := goodIn_app (goodIn_of _ (by decide +kernel)) ggX7_roomFor_X3_wetOnLine
set_option maxRecDepth 20000 in
theorem ggX7_roomFor_X3_pass : GoodIn wsX7_roomFor wsX3_pass := goodIn_r _ [34, 16, 14, 17, 18, 20, 35, 36, 37, 38, 15, 39, 40, 41, 42, 43, 44, 45, 6, 7, 8, 26, 27, 28, 12, 29, 30, 46, 47, 48, 49, 50, 51, 52, 53, 54, 55, 56, 57, 58, 59, 60, 61, 62, 63, 64, 19, 21, 84, 85, 86, 87, 88, 89, 90, 75, 76, 77, 78, 79, 80, 81, 82, 83] (by decide +kernel) (by decide +kernel)
set_option maxRecDepth 20000 in
theorem gX7_roomFor_X3_pass : GoodIn wsX7_roomFor (wsV RX7 153 RX3 yX3_pass wsX3_pass) := goodIn_app (goodIn_of _ (by decide +kernel)) ggX7_roomFor_X3_pass
theorem dX7_roomFor_0 : decode cX7_roomFor 0 = .ok (.iload_n 1, 1) := by decide +kernel
theorem dX7_roomFor_1 : decode cX7_roomFor 1 = .ok (.iconst 1, 1) := by decide +kernel
theorem dX7_roomFor_2 : decode cX7_roomFor 2 = .ok (.iconst 5, 1) := by decide +kernel
theorem dX7_roomFor_3 : decode cX7_roomFor 3 = .ok (.invokestatic 75, 3) := by decide +kernel
theorem dX7_roomFor_6 : decode cX7_roomFor 6 = .ok (.ifCond .ne 5, 3) := by decide +kernel
theorem dX7_roomFor_9 : decode cX7_roomFor 9 = .ok (.iconst (-1), 1) := by decide +kernel
theorem dX7_roomFor_10 : decode cX7_roomFor 10 = .ok (.ireturn, 1) := by decide +kernel
theorem dX7_roomFor_11 : decode cX7_roomFor 11 = .ok (.aload_n 0, 1) := by decide +kernel
theorem dX7_roomFor_12 : decode cX7_roomFor 12 = .ok (.getfield 32, 3) := by decide +kernel
theorem dX7_roomFor_15 : decode cX7_roomFor 15 = .ok (.aload_n 0, 1) := by decide +kernel
theorem dX7_roomFor_16 : decode cX7_roomFor 16 = .ok (.getfield 28, 3) := by decide +kernel
theorem dX7_roomFor_19 : decode cX7_roomFor 19 = .ok (.invokevirtual 206, 3) := by decide +kernel
theorem dX7_roomFor_22 : decode cX7_roomFor 22 = .ok (.iconst 0, 1) := by decide +kernel
theorem dX7_roomFor_23 : decode cX7_roomFor 23 = .ok (.istore_n 2, 1) := by decide +kernel
theorem dX7_roomFor_24 : decode cX7_roomFor 24 = .ok (.iload_n 2, 1) := by decide +kernel
theorem dX7_roomFor_25 : decode cX7_roomFor 25 = .ok (.bipush 99, 2) := by decide +kernel
theorem dX7_roomFor_27 : decode cX7_roomFor 27 = .ok (.if_icmp .gt 38, 3) := by decide +kernel
theorem dX7_roomFor_30 : decode cX7_roomFor 30 = .ok (.aload_n 0, 1) := by decide +kernel
theorem dX7_roomFor_31 : decode cX7_roomFor 31 = .ok (.getfield 19, 3) := by decide +kernel
theorem dX7_roomFor_34 : decode cX7_roomFor 34 = .ok (.getfield 209, 3) := by decide +kernel
theorem dX7_roomFor_37 : decode cX7_roomFor 37 = .ok (.aload_n 0, 1) := by decide +kernel
theorem dX7_roomFor_38 : decode cX7_roomFor 38 = .ok (.getfield 32, 3) := by decide +kernel
theorem dX7_roomFor_41 : decode cX7_roomFor 41 = .ok (.invokevirtual 212, 3) := by decide +kernel
theorem dX7_roomFor_44 : decode cX7_roomFor 44 = .ok (.isub, 1) := by decide +kernel
theorem dX7_roomFor_45 : decode cX7_roomFor 45 = .ok (.iload_n 1, 1) := by decide +kernel
theorem dX7_roomFor_46 : decode cX7_roomFor 46 = .ok (.if_icmp .lt 5, 3) := by decide +kernel
theorem dX7_roomFor_49 : decode cX7_roomFor 49 = .ok (.iload_n 2, 1) := by decide +kernel
theorem dX7_roomFor_50 : decode cX7_roomFor 50 = .ok (.ireturn, 1) := by decide +kernel
theorem dX7_roomFor_51 : decode cX7_roomFor 51 = .ok (.aload_n 0, 1) := by decide +kernel
theorem dX7_roomFor_52 : decode cX7_roomFor 52 = .ok (.getfield 32, 3) := by decide +kernel
theorem dX7_roomFor_55 : decode cX7_roomFor 55 = .ok (.invokevirtual 153, 3) := by decide +kernel
theorem dX7_roomFor_58 : decode cX7_roomFor 58 = .ok (.pop, 1) := by decide +kernel
theorem dX7_roomFor_59 : decode cX7_roomFor 59 = .ok (.iinc 2 1, 3) := by decide +kernel
theorem dX7_roomFor_62 : decode cX7_roomFor 62 = .ok (.goto (-38), 3) := by decide +kernel
theorem dX7_roomFor_65 : decode cX7_roomFor 65 = .ok (.bipush (-9), 2) := by decide +kernel
theorem dX7_roomFor_67 : decode cX7_roomFor 67 = .ok (.ireturn, 1) := by decide +kernel
set_option maxRecDepth 20000 in
theorem ggX7_pegs_X3_pieceAt : GoodIn wsX7_pegs wsX3_pieceAt := goodIn_r _ [10, 11, 12, 13, 33, 34, 35, 36, 37, 38, 39, 24, 25, 26, 27, 28, 29, 30, 31, 32] (by decide +kernel) (by decide +kernel)
set_option maxRecDepth 20000 in
theorem gX7_pegs_X3_pieceAt : GoodIn wsX7_pegs (wsV RX7 135 RX3 yX3_pieceAt wsX3_pieceAt) := goodIn_app (goodIn_of _ (by decide +kernel)) ggX7_pegs_X3_pieceAt
theorem dX7_pegs_0 : decode cX7_pegs 0 = .ok (.iconst 0, 1) := by decide +kernel
theorem dX7_pegs_1 : decode cX7_pegs 1 = .ok (.istore_n 1, 1) := by decide +kernel
theorem dX7_pegs_2 : decode cX7_pegs 2 = .ok (.iconst 0, 1) := by decide +kernel
theorem dX7_pegs_3 : decode cX7_pegs 3 = .ok (.istore_n 2, 1) := by decide +kernel
theorem dX7_pegs_4 : decode cX7_pegs 4 = .ok (.iconst 0, 1) := by decide +kernel
theorem dX7_pegs_5 : decode cX7_pegs 5 = .ok (.istore_n 3, 1) := by decide +kernel
theorem dX7_pegs_6 : decode cX7_pegs 6 = .ok (.iload_n 3, 1) := by decide +kernel
theorem dX7_pegs_7 : decode cX7_pegs 7 = .ok (.aload_n 0, 1) := by decide +kernel
theorem dX7_pegs_8 : decode cX7_pegs 8 = .ok (.getfield 19, 3) := by decide +kernel
theorem dX7_pegs_11 : decode cX7_pegs 11 = .ok (.getfield 209, 3) := by decide +kernel
theorem dX7_pegs_14 : decode cX7_pegs 14 = .ok (.if_icmp .ge 77, 3) := by decide +kernel
theorem dX7_pegs_17 : decode cX7_pegs 17 = .ok (.aload_n 0, 1) := by decide +kernel
theorem dX7_pegs_18 : decode cX7_pegs 18 = .ok (.getfield 28, 3) := by decide +kernel
theorem dX7_pegs_21 : decode cX7_pegs 21 = .ok (.iload_n 3, 1) := by decide +kernel
theorem dX7_pegs_22 : decode cX7_pegs 22 = .ok (.invokevirtual 135, 3) := by decide +kernel
theorem dX7_pegs_25 : decode cX7_pegs 25 = .ok (.istore 4, 2) := by decide +kernel
theorem dX7_pegs_27 : decode cX7_pegs 27 = .ok (.iload 4, 2) := by decide +kernel
theorem dX7_pegs_29 : decode cX7_pegs 29 = .ok (.bipush (-9), 2) := by decide +kernel
theorem dX7_pegs_31 : decode cX7_pegs 31 = .ok (.if_icmp .eq 41, 3) := by decide +kernel
theorem dX7_pegs_34 : decode cX7_pegs 34 = .ok (.iload_n 1, 1) := by decide +kernel
theorem dX7_pegs_35 : decode cX7_pegs 35 = .ok (.iconst 1, 1) := by decide +kernel
theorem dX7_pegs_36 : decode cX7_pegs 36 = .ok (.aload_n 0, 1) := by decide +kernel
theorem dX7_pegs_37 : decode cX7_pegs 37 = .ok (.getfield 19, 3) := by decide +kernel
theorem dX7_pegs_40 : decode cX7_pegs 40 = .ok (.getfield 111, 3) := by decide +kernel
theorem dX7_pegs_43 : decode cX7_pegs 43 = .ok (.iload 4, 2) := by decide +kernel
theorem dX7_pegs_45 : decode cX7_pegs 45 = .ok (.iaload, 1) := by decide +kernel
theorem dX7_pegs_46 : decode cX7_pegs 46 = .ok (.aload_n 0, 1) := by decide +kernel
theorem dX7_pegs_47 : decode cX7_pegs 47 = .ok (.getfield 19, 3) := by decide +kernel
theorem dX7_pegs_50 : decode cX7_pegs 50 = .ok (.getfield 132, 3) := by decide +kernel
theorem dX7_pegs_53 : decode cX7_pegs 53 = .ok (.iload_n 3, 1) := by decide +kernel
theorem dX7_pegs_54 : decode cX7_pegs 54 = .ok (.iaload, 1) := by decide +kernel
theorem dX7_pegs_55 : decode cX7_pegs 55 = .ok (.imul, 1) := by decide +kernel
theorem dX7_pegs_56 : decode cX7_pegs 56 = .ok (.bipush 9, 2) := by decide +kernel
theorem dX7_pegs_58 : decode cX7_pegs 58 = .ok (.idiv, 1) := by decide +kernel
theorem dX7_pegs_59 : decode cX7_pegs 59 = .ok (.iadd, 1) := by decide +kernel
theorem dX7_pegs_60 : decode cX7_pegs 60 = .ok (.iload_n 2, 1) := by decide +kernel
theorem dX7_pegs_61 : decode cX7_pegs 61 = .ok (.ifCond .eq 7, 3) := by decide +kernel
theorem dX7_pegs_64 : decode cX7_pegs 64 = .ok (.iconst 1, 1) := by decide +kernel
theorem dX7_pegs_65 : decode cX7_pegs 65 = .ok (.goto 4, 3) := by decide +kernel
theorem dX7_pegs_68 : decode cX7_pegs 68 = .ok (.iconst 0, 1) := by decide +kernel
theorem dX7_pegs_69 : decode cX7_pegs 69 = .ok (.isub, 1) := by decide +kernel
theorem dX7_pegs_70 : decode cX7_pegs 70 = .ok (.iadd, 1) := by decide +kernel
theorem dX7_pegs_71 : decode cX7_pegs 71 = .ok (.istore_n 1, 1) := by decide +kernel
theorem dX7_pegs_72 : decode cX7_pegs 72 = .ok (.iload 4, 2) := by decide +kernel
theorem dX7_pegs_74 : decode cX7_pegs 74 = .ok (.bipush (-9), 2) := by decide +kernel
theorem dX7_pegs_76 : decode cX7_pegs 76 = .ok (.if_icmp .eq 7, 3) := by decide +kernel
theorem dX7_pegs_79 : decode cX7_pegs 79 = .ok (.iconst 1, 1) := by decide +kernel
theorem dX7_pegs_80 : decode cX7_pegs 80 = .ok (.goto 4, 3) := by decide +kernel
theorem dX7_pegs_83 : decode cX7_pegs 83 = .ok (.iconst 0, 1) := by decide +kernel
theorem dX7_pegs_84 : decode cX7_pegs 84 = .ok (.istore_n 2, 1) := by decide +kernel
theorem dX7_pegs_85 : decode cX7_pegs 85 = .ok (.iinc 3 1, 3) := by decide +kernel
theorem dX7_pegs_88 : decode cX7_pegs 88 = .ok (.goto (-82), 3) := by decide +kernel
theorem dX7_pegs_91 : decode cX7_pegs 91 = .ok (.iload_n 1, 1) := by decide +kernel
theorem dX7_pegs_92 : decode cX7_pegs 92 = .ok (.ireturn, 1) := by decide +kernel
set_option maxRecDepth 20000 in
theorem ggX7_coins_X7_within : GoodIn wsX7_coins wsX7_within := goodIn_r _ [9] (by decide +kernel) (by decide +kernel)
set_option maxRecDepth 20000 in
theorem gX7_coins_X7_within : GoodIn wsX7_coins (va_wsS RX7 75 yX7_within wsX7_within) := goodIn_app (goodIn_of _ (by decide +kernel)) ggX7_coins_X7_within
set_option maxRecDepth 20000 in
theorem ggX7_coins_X3_copy : GoodIn wsX7_coins wsX3_copy := goodIn_r _ [14, 15, 16, 17, 18, 19, 20, 21, 22, 81, 82, 83, 84, 85, 86, 87, 72, 73, 74, 75, 76, 77, 78, 79, 80] (by decide +kernel) (by decide +kernel)
set_option maxRecDepth 20000 in
theorem gX7_coins_X3_copy : GoodIn wsX7_coins (wsV RX7 206 RX3 yX3_copy wsX3_copy) := goodIn_app (goodIn_of _ (by decide +kernel)) ggX7_coins_X3_copy
set_option maxRecDepth 20000 in
theorem ggX7_coins_X3_pass : GoodIn wsX7_coins wsX3_pass := goodIn_r _ [26, 17, 15, 18, 19, 21, 27, 28, 29, 30, 16, 31, 32, 33, 34, 35, 36, 37, 7, 8, 9, 38, 39, 40, 13, 41, 42, 43, 44, 45, 46, 47, 48, 49, 50, 51, 52, 53, 54, 55, 56, 57, 58, 59, 60, 61, 20, 22, 81, 82, 83, 84, 85, 86, 87, 72, 73, 74, 75, 76, 77, 78, 79, 80] (by decide +kernel) (by decide +kernel)
set_option maxRecDepth 20000 in
theorem gX7_coins_X3_pass : GoodIn wsX7_coins (wsV RX7 153 RX3 yX3_pass wsX3_pass) := goodIn_app (goodIn_of _ (by decide +kernel)) ggX7_coins_X3_pass
theorem dX7_coins_0 : decode cX7_coins 0 = .ok (.iload_n 1, 1) := by decide +kernel
theorem dX7_coins_1 : decode cX7_coins 1 = .ok (.iconst 0, 1) := by decide +kernel
theorem dX7_coins_2 : decode cX7_coins 2 = .ok (.bipush 24, 2) := by decide +kernel
theorem dX7_coins_4 : decode cX7_coins 4 = .ok (.invokestatic 75, 3) := by decide +kernel
theorem dX7_coins_7 : decode cX7_coins 7 = .ok (.ifCond .ne 5, 3) := by decide +kernel
theorem dX7_coins_10 : decode cX7_coins 10 = .ok (.iconst (-1), 1) := by decide +kernel
theorem dX7_coins_11 : decode cX7_coins 11 = .ok (.ireturn, 1) := by decide +kernel
theorem dX7_coins_12 : decode cX7_coins 12 = .ok (.aload_n 0, 1) := by decide +kernel
theorem dX7_coins_13 : decode cX7_coins 13 = .ok (.getfield 32, 3) := by decide +kernel
theorem dX7_coins_16 : decode cX7_coins 16 = .ok (.aload_n 0, 1) := by decide +kernel
theorem dX7_coins_17 : decode cX7_coins 17 = .ok (.getfield 28, 3) := by decide +kernel
theorem dX7_coins_20 : decode cX7_coins 20 = .ok (.invokevirtual 206, 3) := by decide +kernel
theorem dX7_coins_23 : decode cX7_coins 23 = .ok (.iconst 0, 1) := by decide +kernel
theorem dX7_coins_24 : decode cX7_coins 24 = .ok (.istore_n 2, 1) := by decide +kernel
theorem dX7_coins_25 : decode cX7_coins 25 = .ok (.iload_n 2, 1) := by decide +kernel
theorem dX7_coins_26 : decode cX7_coins 26 = .ok (.iload_n 1, 1) := by decide +kernel
theorem dX7_coins_27 : decode cX7_coins 27 = .ok (.if_icmp .ge 17, 3) := by decide +kernel
theorem dX7_coins_30 : decode cX7_coins 30 = .ok (.aload_n 0, 1) := by decide +kernel
theorem dX7_coins_31 : decode cX7_coins 31 = .ok (.getfield 32, 3) := by decide +kernel
theorem dX7_coins_34 : decode cX7_coins 34 = .ok (.invokevirtual 153, 3) := by decide +kernel
theorem dX7_coins_37 : decode cX7_coins 37 = .ok (.pop, 1) := by decide +kernel
theorem dX7_coins_38 : decode cX7_coins 38 = .ok (.iinc 2 1, 3) := by decide +kernel
theorem dX7_coins_41 : decode cX7_coins 41 = .ok (.goto (-16), 3) := by decide +kernel
theorem dX7_coins_44 : decode cX7_coins 44 = .ok (.iconst 0, 1) := by decide +kernel
theorem dX7_coins_45 : decode cX7_coins 45 = .ok (.istore_n 2, 1) := by decide +kernel
theorem dX7_coins_46 : decode cX7_coins 46 = .ok (.iconst 0, 1) := by decide +kernel
theorem dX7_coins_47 : decode cX7_coins 47 = .ok (.istore_n 3, 1) := by decide +kernel
theorem dX7_coins_48 : decode cX7_coins 48 = .ok (.iload_n 3, 1) := by decide +kernel
theorem dX7_coins_49 : decode cX7_coins 49 = .ok (.aload_n 0, 1) := by decide +kernel
theorem dX7_coins_50 : decode cX7_coins 50 = .ok (.getfield 19, 3) := by decide +kernel
theorem dX7_coins_53 : decode cX7_coins 53 = .ok (.getfield 215, 3) := by decide +kernel
theorem dX7_coins_56 : decode cX7_coins 56 = .ok (.if_icmp .ge 29, 3) := by decide +kernel
theorem dX7_coins_59 : decode cX7_coins 59 = .ok (.iload_n 2, 1) := by decide +kernel
theorem dX7_coins_60 : decode cX7_coins 60 = .ok (.aload_n 0, 1) := by decide +kernel
theorem dX7_coins_61 : decode cX7_coins 61 = .ok (.getfield 32, 3) := by decide +kernel
theorem dX7_coins_64 : decode cX7_coins 64 = .ok (.getfield 107, 3) := by decide +kernel
theorem dX7_coins_67 : decode cX7_coins 67 = .ok (.iload_n 3, 1) := by decide +kernel
theorem dX7_coins_68 : decode cX7_coins 68 = .ok (.iaload, 1) := by decide +kernel
theorem dX7_coins_69 : decode cX7_coins 69 = .ok (.bipush 20, 2) := by decide +kernel
theorem dX7_coins_71 : decode cX7_coins 71 = .ok (.iadd, 1) := by decide +kernel
theorem dX7_coins_72 : decode cX7_coins 72 = .ok (.iconst 1, 1) := by decide +kernel
theorem dX7_coins_73 : decode cX7_coins 73 = .ok (.isub, 1) := by decide +kernel
theorem dX7_coins_74 : decode cX7_coins 74 = .ok (.bipush 20, 2) := by decide +kernel
theorem dX7_coins_76 : decode cX7_coins 76 = .ok (.idiv, 1) := by decide +kernel
theorem dX7_coins_77 : decode cX7_coins 77 = .ok (.iadd, 1) := by decide +kernel
theorem dX7_coins_78 : decode cX7_coins 78 = .ok (.istore_n 2, 1) := by decide +kernel
theorem dX7_coins_79 : decode cX7_coins 79 = .ok (.iinc 3 1, 3) := by decide +kernel
theorem dX7_coins_82 : decode cX7_coins 82 = .ok (.goto (-34), 3) := by decide +kernel
theorem dX7_coins_85 : decode cX7_coins 85 = .ok (.iload_n 2, 1) := by decide +kernel
theorem dX7_coins_86 : decode cX7_coins 86 = .ok (.ireturn, 1) := by decide +kernel
set_option maxRecDepth 20000 in
theorem ggX7_held_X7_within : GoodIn wsX7_held wsX7_within := goodIn_r _ [6] (by decide +kernel) (by decide +kernel)
set_option maxRecDepth 20000 in
theorem gX7_held_X7_within : GoodIn wsX7_held (va_wsS RX7 75 yX7_within wsX7_within) := goodIn_app (goodIn_of _ (by decide +kernel)) ggX7_held_X7_within
set_option maxRecDepth 20000 in
theorem ggX7_held_X0_add : GoodIn wsX7_held wsX0_add := goodIn_r _ [11, 12, 13, 14, 15, 10, 16, 17, 18, 19, 30, 31, 32, 33] (by decide +kernel) (by decide +kernel)
set_option maxRecDepth 20000 in
theorem gX7_held_X0_add : GoodIn wsX7_held (wsV RX7 221 RX0 yX0_add wsX0_add) := goodIn_app (goodIn_of _ (by decide +kernel)) ggX7_held_X0_add
theorem dX7_held_0 : decode cX7_held 0 = .ok (.iload_n 1, 1) := by decide +kernel
theorem dX7_held_1 : decode cX7_held 1 = .ok (.iconst 0, 1) := by decide +kernel
theorem dX7_held_2 : decode cX7_held 2 = .ok (.iconst 1, 1) := by decide +kernel
theorem dX7_held_3 : decode cX7_held 3 = .ok (.invokestatic 75, 3) := by decide +kernel
theorem dX7_held_6 : decode cX7_held 6 = .ok (.ifCond .eq 21, 3) := by decide +kernel
theorem dX7_held_9 : decode cX7_held 9 = .ok (.iload_n 2, 1) := by decide +kernel
theorem dX7_held_10 : decode cX7_held 10 = .ok (.iconst 0, 1) := by decide +kernel
theorem dX7_held_11 : decode cX7_held 11 = .ok (.iconst 1, 1) := by decide +kernel
theorem dX7_held_12 : decode cX7_held 12 = .ok (.invokestatic 75, 3) := by decide +kernel
theorem dX7_held_15 : decode cX7_held 15 = .ok (.ifCond .eq 12, 3) := by decide +kernel
theorem dX7_held_18 : decode cX7_held 18 = .ok (.iload_n 3, 1) := by decide +kernel
theorem dX7_held_19 : decode cX7_held 19 = .ok (.iconst 0, 1) := by decide +kernel
theorem dX7_held_20 : decode cX7_held 20 = .ok (.iconst 1, 1) := by decide +kernel
theorem dX7_held_21 : decode cX7_held 21 = .ok (.invokestatic 75, 3) := by decide +kernel
theorem dX7_held_24 : decode cX7_held 24 = .ok (.ifCond .ne 5, 3) := by decide +kernel
theorem dX7_held_27 : decode cX7_held 27 = .ok (.iconst (-1), 1) := by decide +kernel
theorem dX7_held_28 : decode cX7_held 28 = .ok (.ireturn, 1) := by decide +kernel
theorem dX7_held_29 : decode cX7_held 29 = .ok (.aload_n 0, 1) := by decide +kernel
theorem dX7_held_30 : decode cX7_held 30 = .ok (.getfield 64, 3) := by decide +kernel
theorem dX7_held_33 : decode cX7_held 33 = .ok (.getfield 218, 3) := by decide +kernel
theorem dX7_held_36 : decode cX7_held 36 = .ok (.bipush 30, 2) := by decide +kernel
theorem dX7_held_38 : decode cX7_held 38 = .ok (.if_icmp .lt 6, 3) := by decide +kernel
theorem dX7_held_41 : decode cX7_held 41 = .ok (.bipush (-3), 2) := by decide +kernel
theorem dX7_held_43 : decode cX7_held 43 = .ok (.ireturn, 1) := by decide +kernel
theorem dX7_held_44 : decode cX7_held 44 = .ok (.aload_n 0, 1) := by decide +kernel
theorem dX7_held_45 : decode cX7_held 45 = .ok (.getfield 64, 3) := by decide +kernel
theorem dX7_held_48 : decode cX7_held 48 = .ok (.iload_n 1, 1) := by decide +kernel
theorem dX7_held_49 : decode cX7_held 49 = .ok (.iload_n 2, 1) := by decide +kernel
theorem dX7_held_50 : decode cX7_held 50 = .ok (.iload_n 3, 1) := by decide +kernel
theorem dX7_held_51 : decode cX7_held 51 = .ok (.invokevirtual 221, 3) := by decide +kernel
theorem dX7_held_54 : decode cX7_held 54 = .ok (.aload_n 0, 1) := by decide +kernel
theorem dX7_held_55 : decode cX7_held 55 = .ok (.getfield 64, 3) := by decide +kernel
theorem dX7_held_58 : decode cX7_held 58 = .ok (.getfield 218, 3) := by decide +kernel
theorem dX7_held_61 : decode cX7_held 61 = .ok (.ireturn, 1) := by decide +kernel
set_option maxRecDepth 20000 in
theorem ggX7_right_X7_within : GoodIn wsX7_right wsX7_within := goodIn_r _ [6] (by decide +kernel) (by decide +kernel)
set_option maxRecDepth 20000 in
theorem gX7_right_X7_within : GoodIn wsX7_right (va_wsS RX7 75 yX7_within wsX7_within) := goodIn_app (goodIn_of _ (by decide +kernel)) ggX7_right_X7_within
theorem dX7_right_0 : decode cX7_right 0 = .ok (.iload_n 1, 1) := by decide +kernel
theorem dX7_right_1 : decode cX7_right 1 = .ok (.iconst 0, 1) := by decide +kernel
theorem dX7_right_2 : decode cX7_right 2 = .ok (.iconst 1, 1) := by decide +kernel
theorem dX7_right_3 : decode cX7_right 3 = .ok (.invokestatic 75, 3) := by decide +kernel
theorem dX7_right_6 : decode cX7_right 6 = .ok (.ifCond .eq 15, 3) := by decide +kernel
theorem dX7_right_9 : decode cX7_right 9 = .ok (.aload_n 0, 1) := by decide +kernel
theorem dX7_right_10 : decode cX7_right 10 = .ok (.getfield 64, 3) := by decide +kernel
theorem dX7_right_13 : decode cX7_right 13 = .ok (.getfield 225, 3) := by decide +kernel
theorem dX7_right_16 : decode cX7_right 16 = .ok (.iload_n 1, 1) := by decide +kernel
theorem dX7_right_17 : decode cX7_right 17 = .ok (.iaload, 1) := by decide +kernel
theorem dX7_right_18 : decode cX7_right 18 = .ok (.goto 4, 3) := by decide +kernel
theorem dX7_right_21 : decode cX7_right 21 = .ok (.iconst (-1), 1) := by decide +kernel
theorem dX7_right_22 : decode cX7_right 22 = .ok (.ireturn, 1) := by decide +kernel
theorem dX7_better_0 : decode cX7_better 0 = .ok (.aload_n 0, 1) := by decide +kernel
theorem dX7_better_1 : decode cX7_better 1 = .ok (.getfield 64, 3) := by decide +kernel
theorem dX7_better_4 : decode cX7_better 4 = .ok (.getfield 218, 3) := by decide +kernel
theorem dX7_better_7 : decode cX7_better 7 = .ok (.ifCond .ne 6, 3) := by decide +kernel
theorem dX7_better_10 : decode cX7_better 10 = .ok (.bipush (-9), 2) := by decide +kernel
theorem dX7_better_12 : decode cX7_better 12 = .ok (.ireturn, 1) := by decide +kernel
theorem dX7_better_13 : decode cX7_better 13 = .ok (.aload_n 0, 1) := by decide +kernel
theorem dX7_better_14 : decode cX7_better 14 = .ok (.getfield 64, 3) := by decide +kernel
theorem dX7_better_17 : decode cX7_better 17 = .ok (.getfield 225, 3) := by decide +kernel
theorem dX7_better_20 : decode cX7_better 20 = .ok (.iconst 1, 1) := by decide +kernel
theorem dX7_better_21 : decode cX7_better 21 = .ok (.iaload, 1) := by decide +kernel
theorem dX7_better_22 : decode cX7_better 22 = .ok (.aload_n 0, 1) := by decide +kernel
theorem dX7_better_23 : decode cX7_better 23 = .ok (.getfield 64, 3) := by decide +kernel
theorem dX7_better_26 : decode cX7_better 26 = .ok (.getfield 225, 3) := by decide +kernel
theorem dX7_better_29 : decode cX7_better 29 = .ok (.iconst 0, 1) := by decide +kernel
theorem dX7_better_30 : decode cX7_better 30 = .ok (.iaload, 1) := by decide +kernel
theorem dX7_better_31 : decode cX7_better 31 = .ok (.if_icmp .le 7, 3) := by decide +kernel
theorem dX7_better_34 : decode cX7_better 34 = .ok (.iconst 1, 1) := by decide +kernel
theorem dX7_better_35 : decode cX7_better 35 = .ok (.goto 4, 3) := by decide +kernel
theorem dX7_better_38 : decode cX7_better 38 = .ok (.iconst 0, 1) := by decide +kernel
theorem dX7_better_39 : decode cX7_better 39 = .ok (.ireturn, 1) := by decide +kernel
set_option maxRecDepth 20000 in
theorem ggX7_trust_X7_within : GoodIn wsX7_trust wsX7_within := goodIn_r _ [7] (by decide +kernel) (by decide +kernel)
set_option maxRecDepth 20000 in
theorem gX7_trust_X7_within : GoodIn wsX7_trust (va_wsS RX7 75 yX7_within wsX7_within) := goodIn_app (goodIn_of _ (by decide +kernel)) ggX7_trust_X7_within
set_option maxRecDepth 20000 in
theorem ggX7_trust_X7_commonDivisor : GoodIn wsX7_trust wsX7_commonDivisor := goodIn_r _ [10] (by decide +kernel) (by decide +kernel)
set_option maxRecDepth 20000 in
theorem gX7_trust_X7_commonDivisor : GoodIn wsX7_trust (va_wsS RX7 198 yX7_commonDivisor wsX7_commonDivisor) := goodIn_app (goodIn_of _ (by decide +kernel)) ggX7_trust_X7_commonDivisor
theorem dX7_trust_0 : decode cX7_trust 0 = .ok (.iload_n 1, 1) := by decide +kernel
theorem dX7_trust_1 : decode cX7_trust 1 = .ok (.iconst 0, 1) := by decide +kernel
theorem dX7_trust_2 : decode cX7_trust 2 = .ok (.iconst 1, 1) := by decide +kernel
theorem dX7_trust_3 : decode cX7_trust 3 = .ok (.invokestatic 75, 3) := by decide +kernel
theorem dX7_trust_6 : decode cX7_trust 6 = .ok (.ifCond .eq 12, 3) := by decide +kernel
theorem dX7_trust_9 : decode cX7_trust 9 = .ok (.iload_n 2, 1) := by decide +kernel
theorem dX7_trust_10 : decode cX7_trust 10 = .ok (.iconst 0, 1) := by decide +kernel
theorem dX7_trust_11 : decode cX7_trust 11 = .ok (.iconst 1, 1) := by decide +kernel
theorem dX7_trust_12 : decode cX7_trust 12 = .ok (.invokestatic 75, 3) := by decide +kernel
theorem dX7_trust_15 : decode cX7_trust 15 = .ok (.ifCond .ne 5, 3) := by decide +kernel
theorem dX7_trust_18 : decode cX7_trust 18 = .ok (.iconst (-1), 1) := by decide +kernel
theorem dX7_trust_19 : decode cX7_trust 19 = .ok (.ireturn, 1) := by decide +kernel
theorem dX7_trust_20 : decode cX7_trust 20 = .ok (.aload_n 0, 1) := by decide +kernel
theorem dX7_trust_21 : decode cX7_trust 21 = .ok (.getfield 64, 3) := by decide +kernel
theorem dX7_trust_24 : decode cX7_trust 24 = .ok (.getfield 228, 3) := by decide +kernel
theorem dX7_trust_27 : decode cX7_trust 27 = .ok (.iload_n 1, 1) := by decide +kernel
theorem dX7_trust_28 : decode cX7_trust 28 = .ok (.iaload, 1) := by decide +kernel
theorem dX7_trust_29 : decode cX7_trust 29 = .ok (.istore_n 3, 1) := by decide +kernel
theorem dX7_trust_30 : decode cX7_trust 30 = .ok (.iload_n 3, 1) := by decide +kernel
theorem dX7_trust_31 : decode cX7_trust 31 = .ok (.ifCond .ne 6, 3) := by decide +kernel
theorem dX7_trust_34 : decode cX7_trust 34 = .ok (.bipush (-2), 2) := by decide +kernel
theorem dX7_trust_36 : decode cX7_trust 36 = .ok (.ireturn, 1) := by decide +kernel
theorem dX7_trust_37 : decode cX7_trust 37 = .ok (.aload_n 0, 1) := by decide +kernel
theorem dX7_trust_38 : decode cX7_trust 38 = .ok (.getfield 64, 3) := by decide +kernel
theorem dX7_trust_41 : decode cX7_trust 41 = .ok (.getfield 231, 3) := by decide +kernel
theorem dX7_trust_44 : decode cX7_trust 44 = .ok (.iload_n 1, 1) := by decide +kernel
theorem dX7_trust_45 : decode cX7_trust 45 = .ok (.iaload, 1) := by decide +kernel
theorem dX7_trust_46 : decode cX7_trust 46 = .ok (.istore 4, 2) := by decide +kernel
theorem dX7_trust_48 : decode cX7_trust 48 = .ok (.iload_n 2, 1) := by decide +kernel
theorem dX7_trust_49 : decode cX7_trust 49 = .ok (.ifCond .ne 8, 3) := by decide +kernel
theorem dX7_trust_52 : decode cX7_trust 52 = .ok (.iload 4, 2) := by decide +kernel
theorem dX7_trust_54 : decode cX7_trust 54 = .ok (.goto 4, 3) := by decide +kernel
theorem dX7_trust_57 : decode cX7_trust 57 = .ok (.iload_n 3, 1) := by decide +kernel
theorem dX7_trust_58 : decode cX7_trust 58 = .ok (.iload 4, 2) := by decide +kernel
theorem dX7_trust_60 : decode cX7_trust 60 = .ok (.iload_n 3, 1) := by decide +kernel
theorem dX7_trust_61 : decode cX7_trust 61 = .ok (.invokestatic 198, 3) := by decide +kernel
theorem dX7_trust_64 : decode cX7_trust 64 = .ok (.idiv, 1) := by decide +kernel
theorem dX7_trust_65 : decode cX7_trust 65 = .ok (.ireturn, 1) := by decide +kernel
set_option maxRecDepth 20000 in
theorem ggX7_mark_X7_within : GoodIn wsX7_mark wsX7_within := goodIn_r _ [6] (by decide +kernel) (by decide +kernel)
set_option maxRecDepth 20000 in
theorem gX7_mark_X7_within : GoodIn wsX7_mark (va_wsS RX7 75 yX7_within wsX7_within) := goodIn_app (goodIn_of _ (by decide +kernel)) ggX7_mark_X7_within
set_option maxRecDepth 20000 in
theorem ggX7_mark_X7_isPiece : GoodIn wsX7_mark wsX7_isPiece := goodIn_r _ [10, 11, 12, 3, 4, 5, 6, 55, 56, 57, 58, 59, 60, 61, 62, 63, 64, 65, 66, 67, 68, 69, 70, 71, 72, 73] (by decide +kernel) (by decide +kernel)
set_option maxRecDepth 20000 in
theorem gX7_mark_X7_isPiece : GoodIn wsX7_mark (wsV RX7 103 RX7 yX7_isPiece wsX7_isPiece) := goodIn_app (goodIn_of _ (by decide +kernel)) ggX7_mark_X7_isPiece
set_option maxRecDepth 20000 in
theorem ggX7_mark_X2_as : GoodIn wsX7_mark wsX2_as := goodIn_r _ [17, 18, 19, 20, 16, 21, 22, 23, 24, 25, 26, 27, 28, 29, 30, 31, 32, 33, 34, 35, 36, 37, 38, 39, 40, 41, 42, 43, 44, 45, 46, 47, 48, 49, 50, 51, 52, 53, 54, 74, 75, 76, 77, 78, 79, 80, 81, 82, 83, 65, 66, 67, 68, 69, 70, 71, 72, 73] (by decide +kernel) (by decide +kernel)
set_option maxRecDepth 20000 in
theorem gX7_mark_X2_as : GoodIn wsX7_mark (wsV RX7 234 RX2 yX2_as wsX2_as) := goodIn_app (goodIn_of _ (by decide +kernel)) ggX7_mark_X2_as
theorem dX7_mark_0 : decode cX7_mark 0 = .ok (.iload_n 1, 1) := by decide +kernel
theorem dX7_mark_1 : decode cX7_mark 1 = .ok (.iconst 0, 1) := by decide +kernel
theorem dX7_mark_2 : decode cX7_mark 2 = .ok (.iconst 5, 1) := by decide +kernel
theorem dX7_mark_3 : decode cX7_mark 3 = .ok (.invokestatic 75, 3) := by decide +kernel
theorem dX7_mark_6 : decode cX7_mark 6 = .ok (.ifCond .eq 23, 3) := by decide +kernel
theorem dX7_mark_9 : decode cX7_mark 9 = .ok (.aload_n 0, 1) := by decide +kernel
theorem dX7_mark_10 : decode cX7_mark 10 = .ok (.iload_n 2, 1) := by decide +kernel
theorem dX7_mark_11 : decode cX7_mark 11 = .ok (.invokevirtual 103, 3) := by decide +kernel
theorem dX7_mark_14 : decode cX7_mark 14 = .ok (.ifCond .eq 15, 3) := by decide +kernel
theorem dX7_mark_17 : decode cX7_mark 17 = .ok (.aload_n 0, 1) := by decide +kernel
theorem dX7_mark_18 : decode cX7_mark 18 = .ok (.getfield 71, 3) := by decide +kernel
theorem dX7_mark_21 : decode cX7_mark 21 = .ok (.iload_n 1, 1) := by decide +kernel
theorem dX7_mark_22 : decode cX7_mark 22 = .ok (.iload_n 2, 1) := by decide +kernel
theorem dX7_mark_23 : decode cX7_mark 23 = .ok (.invokevirtual 234, 3) := by decide +kernel
theorem dX7_mark_26 : decode cX7_mark 26 = .ok (.goto 5, 3) := by decide +kernel
theorem dX7_mark_29 : decode cX7_mark 29 = .ok (.ldc 142, 2) := by decide +kernel
theorem dX7_mark_31 : decode cX7_mark 31 = .ok (.ireturn, 1) := by decide +kernel
set_option maxRecDepth 20000 in
theorem ggX7_keep_X7_within : GoodIn wsX7_keep wsX7_within := goodIn_r _ [8] (by decide +kernel) (by decide +kernel)
set_option maxRecDepth 20000 in
theorem gX7_keep_X7_within : GoodIn wsX7_keep (va_wsS RX7 75 yX7_within wsX7_within) := goodIn_app (goodIn_of _ (by decide +kernel)) ggX7_keep_X7_within
set_option maxRecDepth 20000 in
theorem ggX7_keep_X3_copy : GoodIn wsX7_keep wsX3_copy := goodIn_r _ [13, 14, 15, 16, 17, 18, 19, 20, 21, 32, 33, 34, 35, 36, 37, 38, 39, 40, 41, 42, 43, 44, 45, 46, 47] (by decide +kernel) (by decide +kernel)
set_option maxRecDepth 20000 in
theorem gX7_keep_X3_copy : GoodIn wsX7_keep (wsV RX7 206 RX3 yX3_copy wsX3_copy) := goodIn_app (goodIn_of _ (by decide +kernel)) ggX7_keep_X3_copy
theorem dX7_keep_0 : decode cX7_keep 0 = .ok (.iload_n 1, 1) := by decide +kernel
theorem dX7_keep_1 : decode cX7_keep 1 = .ok (.iconst 0, 1) := by decide +kernel
theorem dX7_keep_2 : decode cX7_keep 2 = .ok (.iconst 1, 1) := by decide +kernel
theorem dX7_keep_3 : decode cX7_keep 3 = .ok (.invokestatic 75, 3) := by decide +kernel
theorem dX7_keep_6 : decode cX7_keep 6 = .ok (.ifCond .ne 5, 3) := by decide +kernel
theorem dX7_keep_9 : decode cX7_keep 9 = .ok (.iconst (-1), 1) := by decide +kernel
theorem dX7_keep_10 : decode cX7_keep 10 = .ok (.ireturn, 1) := by decide +kernel
theorem dX7_keep_11 : decode cX7_keep 11 = .ok (.aload_n 0, 1) := by decide +kernel
theorem dX7_keep_12 : decode cX7_keep 12 = .ok (.getfield 35, 3) := by decide +kernel
theorem dX7_keep_15 : decode cX7_keep 15 = .ok (.iload_n 1, 1) := by decide +kernel
theorem dX7_keep_16 : decode cX7_keep 16 = .ok (.aaload, 1) := by decide +kernel
theorem dX7_keep_17 : decode cX7_keep 17 = .ok (.aload_n 0, 1) := by decide +kernel
theorem dX7_keep_18 : decode cX7_keep 18 = .ok (.getfield 28, 3) := by decide +kernel
theorem dX7_keep_21 : decode cX7_keep 21 = .ok (.invokevirtual 206, 3) := by decide +kernel
theorem dX7_keep_24 : decode cX7_keep 24 = .ok (.aload_n 0, 1) := by decide +kernel
theorem dX7_keep_25 : decode cX7_keep 25 = .ok (.getfield 39, 3) := by decide +kernel
theorem dX7_keep_28 : decode cX7_keep 28 = .ok (.iload_n 1, 1) := by decide +kernel
theorem dX7_keep_29 : decode cX7_keep 29 = .ok (.iconst 1, 1) := by decide +kernel
theorem dX7_keep_30 : decode cX7_keep 30 = .ok (.bastore, 1) := by decide +kernel
theorem dX7_keep_31 : decode cX7_keep 31 = .ok (.aload_n 0, 1) := by decide +kernel
theorem dX7_keep_32 : decode cX7_keep 32 = .ok (.getfield 28, 3) := by decide +kernel
theorem dX7_keep_35 : decode cX7_keep 35 = .ok (.getfield 150, 3) := by decide +kernel
theorem dX7_keep_38 : decode cX7_keep 38 = .ok (.ireturn, 1) := by decide +kernel
set_option maxRecDepth 20000 in
theorem ggX7_back_X7_within : GoodIn wsX7_back wsX7_within := goodIn_r _ [8] (by decide +kernel) (by decide +kernel)
set_option maxRecDepth 20000 in
theorem gX7_back_X7_within : GoodIn wsX7_back (va_wsS RX7 75 yX7_within wsX7_within) := goodIn_app (goodIn_of _ (by decide +kernel)) ggX7_back_X7_within
set_option maxRecDepth 20000 in
theorem ggX7_back_X3_copy : GoodIn wsX7_back wsX3_copy := goodIn_r _ [13, 14, 15, 16, 17, 18, 19, 20, 21, 32, 33, 34, 35, 36, 37, 38, 39, 40, 41, 42, 43, 44, 45, 46, 47] (by decide +kernel) (by decide +kernel)
set_option maxRecDepth 20000 in
theorem gX7_back_X3_copy : GoodIn wsX7_back (wsV RX7 206 RX3 yX3_copy wsX3_copy) := goodIn_app (goodIn_of _ (by decide +kernel)) ggX7_back_X3_copy
theorem dX7_back_0 : decode cX7_back 0 = .ok (.iload_n 1, 1) := by decide +kernel
theorem dX7_back_1 : decode cX7_back 1 = .ok (.iconst 0, 1) := by decide +kernel
theorem dX7_back_2 : decode cX7_back 2 = .ok (.iconst 1, 1) := by decide +kernel
theorem dX7_back_3 : decode cX7_back 3 = .ok (.invokestatic 75, 3) := by decide +kernel
theorem dX7_back_6 : decode cX7_back 6 = .ok (.ifCond .ne 5, 3) := by decide +kernel
theorem dX7_back_9 : decode cX7_back 9 = .ok (.iconst (-1), 1) := by decide +kernel
theorem dX7_back_10 : decode cX7_back 10 = .ok (.ireturn, 1) := by decide +kernel
theorem dX7_back_11 : decode cX7_back 11 = .ok (.aload_n 0, 1) := by decide +kernel
theorem dX7_back_12 : decode cX7_back 12 = .ok (.getfield 39, 3) := by decide +kernel
theorem dX7_back_15 : decode cX7_back 15 = .ok (.iload_n 1, 1) := by decide +kernel
theorem dX7_back_16 : decode cX7_back 16 = .ok (.baload, 1) := by decide +kernel
theorem dX7_back_17 : decode cX7_back 17 = .ok (.ifCond .ne 6, 3) := by decide +kernel
theorem dX7_back_20 : decode cX7_back 20 = .ok (.bipush (-2), 2) := by decide +kernel
theorem dX7_back_22 : decode cX7_back 22 = .ok (.ireturn, 1) := by decide +kernel
theorem dX7_back_23 : decode cX7_back 23 = .ok (.aload_n 0, 1) := by decide +kernel
theorem dX7_back_24 : decode cX7_back 24 = .ok (.getfield 28, 3) := by decide +kernel
theorem dX7_back_27 : decode cX7_back 27 = .ok (.aload_n 0, 1) := by decide +kernel
theorem dX7_back_28 : decode cX7_back 28 = .ok (.getfield 35, 3) := by decide +kernel
theorem dX7_back_31 : decode cX7_back 31 = .ok (.iload_n 1, 1) := by decide +kernel
theorem dX7_back_32 : decode cX7_back 32 = .ok (.aaload, 1) := by decide +kernel
theorem dX7_back_33 : decode cX7_back 33 = .ok (.invokevirtual 206, 3) := by decide +kernel
theorem dX7_back_36 : decode cX7_back 36 = .ok (.aload_n 0, 1) := by decide +kernel
theorem dX7_back_37 : decode cX7_back 37 = .ok (.getfield 28, 3) := by decide +kernel
theorem dX7_back_40 : decode cX7_back 40 = .ok (.getfield 150, 3) := by decide +kernel
theorem dX7_back_43 : decode cX7_back 43 = .ok (.ireturn, 1) := by decide +kernel
set_option maxRecDepth 20000 in
theorem ggX7_count_X3_onRack : GoodIn wsX7_count wsX3_onRack := goodIn_r _ [14, 15, 16, 17, 49, 50, 51, 52, 53, 54, 55, 28, 29, 30, 31, 32, 33, 34, 35, 36] (by decide +kernel) (by decide +kernel)
set_option maxRecDepth 20000 in
theorem gX7_count_X3_onRack : GoodIn wsX7_count (wsV RX7 147 RX3 yX3_onRack wsX3_onRack) := goodIn_app (goodIn_of _ (by decide +kernel)) ggX7_count_X3_onRack
theorem dX7_count_0 : decode cX7_count 0 = .ok (.iload_n 1, 1) := by decide +kernel
theorem dX7_count_1 : decode cX7_count 1 = .ok (.tableswitch 87 0 5 #[39, 47, 55, 63, 71, 79], 39) := by decide +kernel
theorem dX7_count_40 : decode cX7_count 40 = .ok (.aload_n 0, 1) := by decide +kernel
theorem dX7_count_41 : decode cX7_count 41 = .ok (.getfield 19, 3) := by decide +kernel
theorem dX7_count_44 : decode cX7_count 44 = .ok (.getfield 215, 3) := by decide +kernel
theorem dX7_count_47 : decode cX7_count 47 = .ok (.ireturn, 1) := by decide +kernel
theorem dX7_count_48 : decode cX7_count 48 = .ok (.aload_n 0, 1) := by decide +kernel
theorem dX7_count_49 : decode cX7_count 49 = .ok (.getfield 19, 3) := by decide +kernel
theorem dX7_count_52 : decode cX7_count 52 = .ok (.getfield 209, 3) := by decide +kernel
theorem dX7_count_55 : decode cX7_count 55 = .ok (.ireturn, 1) := by decide +kernel
theorem dX7_count_56 : decode cX7_count 56 = .ok (.aload_n 0, 1) := by decide +kernel
theorem dX7_count_57 : decode cX7_count 57 = .ok (.getfield 19, 3) := by decide +kernel
theorem dX7_count_60 : decode cX7_count 60 = .ok (.getfield 237, 3) := by decide +kernel
theorem dX7_count_63 : decode cX7_count 63 = .ok (.ireturn, 1) := by decide +kernel
theorem dX7_count_64 : decode cX7_count 64 = .ok (.aload_n 0, 1) := by decide +kernel
theorem dX7_count_65 : decode cX7_count 65 = .ok (.getfield 28, 3) := by decide +kernel
theorem dX7_count_68 : decode cX7_count 68 = .ok (.invokevirtual 147, 3) := by decide +kernel
theorem dX7_count_71 : decode cX7_count 71 = .ok (.ireturn, 1) := by decide +kernel
theorem dX7_count_72 : decode cX7_count 72 = .ok (.aload_n 0, 1) := by decide +kernel
theorem dX7_count_73 : decode cX7_count 73 = .ok (.getfield 64, 3) := by decide +kernel
theorem dX7_count_76 : decode cX7_count 76 = .ok (.getfield 218, 3) := by decide +kernel
theorem dX7_count_79 : decode cX7_count 79 = .ok (.ireturn, 1) := by decide +kernel
theorem dX7_count_80 : decode cX7_count 80 = .ok (.aload_n 0, 1) := by decide +kernel
theorem dX7_count_81 : decode cX7_count 81 = .ok (.getfield 10, 3) := by decide +kernel
theorem dX7_count_84 : decode cX7_count 84 = .ok (.getfield 83, 3) := by decide +kernel
theorem dX7_count_87 : decode cX7_count 87 = .ok (.ireturn, 1) := by decide +kernel
theorem dX7_count_88 : decode cX7_count 88 = .ok (.iconst (-1), 1) := by decide +kernel
theorem dX7_count_89 : decode cX7_count 89 = .ok (.ireturn, 1) := by decide +kernel
theorem dX7_trace_0 : decode cX7_trace 0 = .ok (.aload_n 0, 1) := by decide +kernel
theorem dX7_trace_1 : decode cX7_trace 1 = .ok (.getfield 71, 3) := by decide +kernel
theorem dX7_trace_4 : decode cX7_trace 4 = .ok (.getfield 240, 3) := by decide +kernel
theorem dX7_trace_7 : decode cX7_trace 7 = .ok (.lreturn, 1) := by decide +kernel
theorem dX7_within_0 : decode cX7_within 0 = .ok (.iload_n 0, 1) := by decide +kernel
theorem dX7_within_1 : decode cX7_within 1 = .ok (.iload_n 1, 1) := by decide +kernel
theorem dX7_within_2 : decode cX7_within 2 = .ok (.if_icmp .lt 12, 3) := by decide +kernel
theorem dX7_within_5 : decode cX7_within 5 = .ok (.iload_n 0, 1) := by decide +kernel
theorem dX7_within_6 : decode cX7_within 6 = .ok (.iload_n 2, 1) := by decide +kernel
theorem dX7_within_7 : decode cX7_within 7 = .ok (.if_icmp .gt 7, 3) := by decide +kernel
theorem dX7_within_10 : decode cX7_within 10 = .ok (.iconst 1, 1) := by decide +kernel
theorem dX7_within_11 : decode cX7_within 11 = .ok (.goto 4, 3) := by decide +kernel
theorem dX7_within_14 : decode cX7_within 14 = .ok (.iconst 0, 1) := by decide +kernel
theorem dX7_within_15 : decode cX7_within 15 = .ok (.ireturn, 1) := by decide +kernel
set_option maxRecDepth 20000 in
theorem ggX7_isPiece_X7_within : GoodIn wsX7_isPiece wsX7_within := goodIn_r _ [6] (by decide +kernel) (by decide +kernel)
set_option maxRecDepth 20000 in
theorem gX7_isPiece_X7_within : GoodIn wsX7_isPiece (va_wsS RX7 75 yX7_within wsX7_within) := goodIn_app (goodIn_of _ (by decide +kernel)) ggX7_isPiece_X7_within
theorem dX7_isPiece_0 : decode cX7_isPiece 0 = .ok (.iload_n 1, 1) := by decide +kernel
theorem dX7_isPiece_1 : decode cX7_isPiece 1 = .ok (.iconst 0, 1) := by decide +kernel
theorem dX7_isPiece_2 : decode cX7_isPiece 2 = .ok (.aload_n 0, 1) := by decide +kernel
theorem dX7_isPiece_3 : decode cX7_isPiece 3 = .ok (.getfield 19, 3) := by decide +kernel
theorem dX7_isPiece_6 : decode cX7_isPiece 6 = .ok (.getfield 215, 3) := by decide +kernel
theorem dX7_isPiece_9 : decode cX7_isPiece 9 = .ok (.iconst 1, 1) := by decide +kernel
theorem dX7_isPiece_10 : decode cX7_isPiece 10 = .ok (.isub, 1) := by decide +kernel
theorem dX7_isPiece_11 : decode cX7_isPiece 11 = .ok (.invokestatic 75, 3) := by decide +kernel
theorem dX7_isPiece_14 : decode cX7_isPiece 14 = .ok (.ireturn, 1) := by decide +kernel
set_option maxRecDepth 20000 in
theorem ggX7_isSpot_X7_within : GoodIn wsX7_isSpot wsX7_within := goodIn_r _ [6] (by decide +kernel) (by decide +kernel)
set_option maxRecDepth 20000 in
theorem gX7_isSpot_X7_within : GoodIn wsX7_isSpot (va_wsS RX7 75 yX7_within wsX7_within) := goodIn_app (goodIn_of _ (by decide +kernel)) ggX7_isSpot_X7_within
theorem dX7_isSpot_0 : decode cX7_isSpot 0 = .ok (.iload_n 1, 1) := by decide +kernel
theorem dX7_isSpot_1 : decode cX7_isSpot 1 = .ok (.iconst 0, 1) := by decide +kernel
theorem dX7_isSpot_2 : decode cX7_isSpot 2 = .ok (.aload_n 0, 1) := by decide +kernel
theorem dX7_isSpot_3 : decode cX7_isSpot 3 = .ok (.getfield 19, 3) := by decide +kernel
theorem dX7_isSpot_6 : decode cX7_isSpot 6 = .ok (.getfield 209, 3) := by decide +kernel
theorem dX7_isSpot_9 : decode cX7_isSpot 9 = .ok (.iconst 1, 1) := by decide +kernel
theorem dX7_isSpot_10 : decode cX7_isSpot 10 = .ok (.isub, 1) := by decide +kernel
theorem dX7_isSpot_11 : decode cX7_isSpot 11 = .ok (.invokestatic 75, 3) := by decide +kernel
theorem dX7_isSpot_14 : decode cX7_isSpot 14 = .ok (.ireturn, 1) := by decide +kernel
set_option maxRecDepth 20000 in
theorem ggX7_firstOrLast_X3_copy : GoodIn wsX7_firstOrLast wsX3_copy := goodIn_r _ [8, 9, 10, 11, 12, 13, 14, 15, 16, 70, 71, 72, 73, 74, 75, 76, 77, 78, 79, 80, 81, 82, 83, 84, 85] (by decide +kernel) (by decide +kernel)
set_option maxRecDepth 20000 in
theorem gX7_firstOrLast_X3_copy : GoodIn wsX7_firstOrLast (wsV RX7 206 RX3 yX3_copy wsX3_copy) := goodIn_app (goodIn_of _ (by decide +kernel)) ggX7_firstOrLast_X3_copy
set_option maxRecDepth 20000 in
theorem ggX7_firstOrLast_X7_within : GoodIn wsX7_firstOrLast wsX7_within := goodIn_r _ [20] (by decide +kernel) (by decide +kernel)
set_option maxRecDepth 20000 in
theorem gX7_firstOrLast_X7_within : GoodIn wsX7_firstOrLast (va_wsS RX7 75 yX7_within wsX7_within) := goodIn_app (goodIn_of _ (by decide +kernel)) ggX7_firstOrLast_X7_within
set_option maxRecDepth 20000 in
theorem ggX7_firstOrLast_X3_pass : GoodIn wsX7_firstOrLast wsX3_pass := goodIn_r _ [24, 11, 9, 12, 13, 15, 25, 26, 27, 28, 10, 29, 30, 31, 32, 33, 34, 35, 18, 19, 20, 36, 37, 38, 7, 39, 40, 41, 42, 43, 44, 45, 46, 47, 48, 49, 50, 51, 52, 53, 54, 55, 56, 57, 58, 59, 14, 16, 70, 71, 72, 73, 74, 75, 76, 77, 78, 79, 80, 81, 82, 83, 84, 85] (by decide +kernel) (by decide +kernel)
set_option maxRecDepth 20000 in
theorem gX7_firstOrLast_X3_pass : GoodIn wsX7_firstOrLast (wsV RX7 153 RX3 yX3_pass wsX3_pass) := goodIn_app (goodIn_of _ (by decide +kernel)) ggX7_firstOrLast_X3_pass
theorem dX7_firstOrLast_0 : decode cX7_firstOrLast 0 = .ok (.bipush (-9), 2) := by decide +kernel
theorem dX7_firstOrLast_2 : decode cX7_firstOrLast 2 = .ok (.istore 5, 2) := by decide +kernel
theorem dX7_firstOrLast_4 : decode cX7_firstOrLast 4 = .ok (.aload_n 0, 1) := by decide +kernel
theorem dX7_firstOrLast_5 : decode cX7_firstOrLast 5 = .ok (.getfield 32, 3) := by decide +kernel
theorem dX7_firstOrLast_8 : decode cX7_firstOrLast 8 = .ok (.aload_n 0, 1) := by decide +kernel
theorem dX7_firstOrLast_9 : decode cX7_firstOrLast 9 = .ok (.getfield 28, 3) := by decide +kernel
theorem dX7_firstOrLast_12 : decode cX7_firstOrLast 12 = .ok (.invokevirtual 206, 3) := by decide +kernel
theorem dX7_firstOrLast_15 : decode cX7_firstOrLast 15 = .ok (.iconst 0, 1) := by decide +kernel
theorem dX7_firstOrLast_16 : decode cX7_firstOrLast 16 = .ok (.istore 6, 2) := by decide +kernel
theorem dX7_firstOrLast_18 : decode cX7_firstOrLast 18 = .ok (.iload 6, 2) := by decide +kernel
theorem dX7_firstOrLast_20 : decode cX7_firstOrLast 20 = .ok (.bipush 99, 2) := by decide +kernel
theorem dX7_firstOrLast_22 : decode cX7_firstOrLast 22 = .ok (.if_icmp .gt 46, 3) := by decide +kernel
theorem dX7_firstOrLast_25 : decode cX7_firstOrLast 25 = .ok (.aload_n 0, 1) := by decide +kernel
theorem dX7_firstOrLast_26 : decode cX7_firstOrLast 26 = .ok (.getfield 32, 3) := by decide +kernel
theorem dX7_firstOrLast_29 : decode cX7_firstOrLast 29 = .ok (.getfield 107, 3) := by decide +kernel
theorem dX7_firstOrLast_32 : decode cX7_firstOrLast 32 = .ok (.iload_n 1, 1) := by decide +kernel
theorem dX7_firstOrLast_33 : decode cX7_firstOrLast 33 = .ok (.iaload, 1) := by decide +kernel
theorem dX7_firstOrLast_34 : decode cX7_firstOrLast 34 = .ok (.iload_n 2, 1) := by decide +kernel
theorem dX7_firstOrLast_35 : decode cX7_firstOrLast 35 = .ok (.iload_n 3, 1) := by decide +kernel
theorem dX7_firstOrLast_36 : decode cX7_firstOrLast 36 = .ok (.invokestatic 75, 3) := by decide +kernel
theorem dX7_firstOrLast_39 : decode cX7_firstOrLast 39 = .ok (.ifCond .eq 15, 3) := by decide +kernel
theorem dX7_firstOrLast_42 : decode cX7_firstOrLast 42 = .ok (.iload 6, 2) := by decide +kernel
theorem dX7_firstOrLast_44 : decode cX7_firstOrLast 44 = .ok (.istore 5, 2) := by decide +kernel
theorem dX7_firstOrLast_46 : decode cX7_firstOrLast 46 = .ok (.iload 4, 2) := by decide +kernel
theorem dX7_firstOrLast_48 : decode cX7_firstOrLast 48 = .ok (.ifCond .ne 6, 3) := by decide +kernel
theorem dX7_firstOrLast_51 : decode cX7_firstOrLast 51 = .ok (.goto 17, 3) := by decide +kernel
theorem dX7_firstOrLast_54 : decode cX7_firstOrLast 54 = .ok (.aload_n 0, 1) := by decide +kernel
theorem dX7_firstOrLast_55 : decode cX7_firstOrLast 55 = .ok (.getfield 32, 3) := by decide +kernel
theorem dX7_firstOrLast_58 : decode cX7_firstOrLast 58 = .ok (.invokevirtual 153, 3) := by decide +kernel
theorem dX7_firstOrLast_61 : decode cX7_firstOrLast 61 = .ok (.pop, 1) := by decide +kernel
theorem dX7_firstOrLast_62 : decode cX7_firstOrLast 62 = .ok (.iinc 6 1, 3) := by decide +kernel
theorem dX7_firstOrLast_65 : decode cX7_firstOrLast 65 = .ok (.goto (-47), 3) := by decide +kernel
theorem dX7_firstOrLast_68 : decode cX7_firstOrLast 68 = .ok (.iload 5, 2) := by decide +kernel
theorem dX7_firstOrLast_70 : decode cX7_firstOrLast 70 = .ok (.ireturn, 1) := by decide +kernel
set_option maxRecDepth 20000 in
theorem ggX7_stepsWithoutRain_X3_copy : GoodIn wsX7_stepsWithoutRain wsX3_copy := goodIn_r _ [9, 10, 11, 12, 13, 14, 15, 16, 17, 75, 76, 77, 78, 79, 80, 81, 82, 83, 84, 85, 86, 87, 88, 89, 90] (by decide +kernel) (by decide +kernel)
set_option maxRecDepth 20000 in
theorem gX7_stepsWithoutRain_X3_copy : GoodIn wsX7_stepsWithoutRain (wsV RX7 206 RX3 yX3_copy wsX3_copy) := goodIn_app (goodIn_of _ (by decide +kernel)) ggX7_stepsWithoutRain_X3_copy
set_option maxRecDepth 20000 in
theorem ggX7_stepsWithoutRain_X3_wetOnLine : GoodIn wsX7_stepsWithoutRain wsX3_wetOnLine := goodIn_r _ [21, 12, 13, 14, 22, 23, 24, 8, 25, 16, 26, 27, 28, 29, 75, 76, 77, 78, 79, 80, 81, 82, 83, 84, 85, 86, 87, 88, 89, 90] (by decide +kernel) (by decide +kernel)
set_option maxRecDepth 20000 in
theorem gX7_stepsWithoutRain_X3_wetOnLine : GoodIn wsX7_stepsWithoutRain (wsV RX7 212 RX3 yX3_wetOnLine wsX3_wetOnLine) := goodIn_app (goodIn_of _ (by decide +kernel)) ggX7_stepsWithoutRain_X3_wetOnLine
set_option maxRecDepth 20000 in
theorem ggX7_stepsWithoutRain_X6_skyIn : GoodIn wsX7_stepsWithoutRain wsX6_skyIn := goodIn_r _ [34, 35, 36, 27, 28, 29, 82, 83, 84, 85, 86, 87, 88, 89, 90] (by decide +kernel) (by decide +kernel)
set_option maxRecDepth 20000 in
theorem gX7_stepsWithoutRain_X6_skyIn : GoodIn wsX7_stepsWithoutRain (wsV RX7 139 RX6 yX6_skyIn wsX6_skyIn) := goodIn_app (goodIn_of _ (by decide +kernel)) ggX7_stepsWithoutRain_X6_skyIn
set_option maxRecDepth 20000 in
theorem ggX7_stepsWithoutRain_X3_pass : GoodIn wsX7_stepsWithoutRain wsX3_pass := goodIn_r _ [40, 12, 10, 13, 14, 16, 41, 42, 43, 44, 11, 45, 31, 32, 33, 34, 35, 36, 27, 28, 29, 22, 23, 24, 8, 25, 26, 46, 47, 48, 49, 50, 51, 52, 53, 54, 55, 56, 57, 58, 59, 60, 61, 62, 63, 64, 15, 17, 75, 76, 77, 78, 79, 80, 81, 82, 83, 84, 85, 86, 87, 88, 89, 90] (by decide +kernel) (by decide +kernel)
set_option maxRecDepth 20000 in
theorem gX7_stepsWithoutRain_X3_pass : GoodIn wsX7_stepsWithoutRain (wsV RX7 153 RX3 yX3_pass wsX3_pass) := goodIn_app (goodIn_of _ (by decide +kernel)) ggX7_stepsWithoutRain_X3_pass
theorem dX7_stepsWithoutRain_0 : decode cX7_stepsWithoutRain 0 = .ok (.aload_n 0, 1) := by decide +kernel
theorem dX7_stepsWithoutRain_1 : decode cX7_stepsWithoutRain 1 = .ok (.getfield 32, 3) := by decide +kernel
theorem dX7_stepsWithoutRain_4 : decode cX7_stepsWithoutRain 4 = .ok (.aload_n 0, 1) := by decide +kernel
theorem dX7_stepsWithoutRain_5 : decode cX7_stepsWithoutRain 5 = .ok (.getfield 28, 3) := by decide +kernel
theorem dX7_stepsWithoutRain_8 : decode cX7_stepsWithoutRain 8 = .ok (.invokevirtual 206, 3) := by decide +kernel
theorem dX7_stepsWithoutRain_11 : decode cX7_stepsWithoutRain 11 = .ok (.iconst 0, 1) := by decide +kernel
theorem dX7_stepsWithoutRain_12 : decode cX7_stepsWithoutRain 12 = .ok (.istore_n 1, 1) := by decide +kernel
theorem dX7_stepsWithoutRain_13 : decode cX7_stepsWithoutRain 13 = .ok (.iload_n 1, 1) := by decide +kernel
theorem dX7_stepsWithoutRain_14 : decode cX7_stepsWithoutRain 14 = .ok (.bipush 99, 2) := by decide +kernel
theorem dX7_stepsWithoutRain_16 : decode cX7_stepsWithoutRain 16 = .ok (.if_icmp .gt 49, 3) := by decide +kernel
theorem dX7_stepsWithoutRain_19 : decode cX7_stepsWithoutRain 19 = .ok (.aload_n 0, 1) := by decide +kernel
theorem dX7_stepsWithoutRain_20 : decode cX7_stepsWithoutRain 20 = .ok (.getfield 32, 3) := by decide +kernel
theorem dX7_stepsWithoutRain_23 : decode cX7_stepsWithoutRain 23 = .ok (.invokevirtual 212, 3) := by decide +kernel
theorem dX7_stepsWithoutRain_26 : decode cX7_stepsWithoutRain 26 = .ok (.ifCond .ne 5, 3) := by decide +kernel
theorem dX7_stepsWithoutRain_29 : decode cX7_stepsWithoutRain 29 = .ok (.iload_n 1, 1) := by decide +kernel
theorem dX7_stepsWithoutRain_30 : decode cX7_stepsWithoutRain 30 = .ok (.ireturn, 1) := by decide +kernel
theorem dX7_stepsWithoutRain_31 : decode cX7_stepsWithoutRain 31 = .ok (.aload_n 0, 1) := by decide +kernel
theorem dX7_stepsWithoutRain_32 : decode cX7_stepsWithoutRain 32 = .ok (.getfield 19, 3) := by decide +kernel
theorem dX7_stepsWithoutRain_35 : decode cX7_stepsWithoutRain 35 = .ok (.aload_n 0, 1) := by decide +kernel
theorem dX7_stepsWithoutRain_36 : decode cX7_stepsWithoutRain 36 = .ok (.getfield 32, 3) := by decide +kernel
theorem dX7_stepsWithoutRain_39 : decode cX7_stepsWithoutRain 39 = .ok (.getfield 150, 3) := by decide +kernel
theorem dX7_stepsWithoutRain_42 : decode cX7_stepsWithoutRain 42 = .ok (.invokevirtual 139, 3) := by decide +kernel
theorem dX7_stepsWithoutRain_45 : decode cX7_stepsWithoutRain 45 = .ok (.ifCond .ge 6, 3) := by decide +kernel
theorem dX7_stepsWithoutRain_48 : decode cX7_stepsWithoutRain 48 = .ok (.bipush (-9), 2) := by decide +kernel
theorem dX7_stepsWithoutRain_50 : decode cX7_stepsWithoutRain 50 = .ok (.ireturn, 1) := by decide +kernel
theorem dX7_stepsWithoutRain_51 : decode cX7_stepsWithoutRain 51 = .ok (.aload_n 0, 1) := by decide +kernel
theorem dX7_stepsWithoutRain_52 : decode cX7_stepsWithoutRain 52 = .ok (.getfield 32, 3) := by decide +kernel
theorem dX7_stepsWithoutRain_55 : decode cX7_stepsWithoutRain 55 = .ok (.invokevirtual 153, 3) := by decide +kernel
theorem dX7_stepsWithoutRain_58 : decode cX7_stepsWithoutRain 58 = .ok (.pop, 1) := by decide +kernel
theorem dX7_stepsWithoutRain_59 : decode cX7_stepsWithoutRain 59 = .ok (.iinc 1 1, 3) := by decide +kernel
theorem dX7_stepsWithoutRain_62 : decode cX7_stepsWithoutRain 62 = .ok (.goto (-49), 3) := by decide +kernel
theorem dX7_stepsWithoutRain_65 : decode cX7_stepsWithoutRain 65 = .ok (.bipush (-9), 2) := by decide +kernel
theorem dX7_stepsWithoutRain_67 : decode cX7_stepsWithoutRain 67 = .ok (.ireturn, 1) := by decide +kernel
theorem dX7_commonDivisor_0 : decode cX7_commonDivisor 0 = .ok (.iload_n 1, 1) := by decide +kernel
theorem dX7_commonDivisor_1 : decode cX7_commonDivisor 1 = .ok (.istore_n 2, 1) := by decide +kernel
theorem dX7_commonDivisor_2 : decode cX7_commonDivisor 2 = .ok (.iload_n 2, 1) := by decide +kernel
theorem dX7_commonDivisor_3 : decode cX7_commonDivisor 3 = .ok (.iconst 1, 1) := by decide +kernel
theorem dX7_commonDivisor_4 : decode cX7_commonDivisor 4 = .ok (.if_icmp .le 23, 3) := by decide +kernel
theorem dX7_commonDivisor_7 : decode cX7_commonDivisor 7 = .ok (.iload_n 0, 1) := by decide +kernel
theorem dX7_commonDivisor_8 : decode cX7_commonDivisor 8 = .ok (.iload_n 2, 1) := by decide +kernel
theorem dX7_commonDivisor_9 : decode cX7_commonDivisor 9 = .ok (.irem, 1) := by decide +kernel
theorem dX7_commonDivisor_10 : decode cX7_commonDivisor 10 = .ok (.ifCond .ne 11, 3) := by decide +kernel
theorem dX7_commonDivisor_13 : decode cX7_commonDivisor 13 = .ok (.iload_n 1, 1) := by decide +kernel
theorem dX7_commonDivisor_14 : decode cX7_commonDivisor 14 = .ok (.iload_n 2, 1) := by decide +kernel
theorem dX7_commonDivisor_15 : decode cX7_commonDivisor 15 = .ok (.irem, 1) := by decide +kernel
theorem dX7_commonDivisor_16 : decode cX7_commonDivisor 16 = .ok (.ifCond .ne 5, 3) := by decide +kernel
theorem dX7_commonDivisor_19 : decode cX7_commonDivisor 19 = .ok (.iload_n 2, 1) := by decide +kernel
theorem dX7_commonDivisor_20 : decode cX7_commonDivisor 20 = .ok (.ireturn, 1) := by decide +kernel
theorem dX7_commonDivisor_21 : decode cX7_commonDivisor 21 = .ok (.iinc 2 (-1), 3) := by decide +kernel
theorem dX7_commonDivisor_24 : decode cX7_commonDivisor 24 = .ok (.goto (-22), 3) := by decide +kernel
theorem dX7_commonDivisor_27 : decode cX7_commonDivisor 27 = .ok (.iconst 1, 1) := by decide +kernel
theorem dX7_commonDivisor_28 : decode cX7_commonDivisor 28 = .ok (.ireturn, 1) := by decide +kernel
theorem dX7_power_0 : decode cX7_power 0 = .ok (.lconst 1, 1) := by decide +kernel
theorem dX7_power_1 : decode cX7_power 1 = .ok (.lstore_n 2, 1) := by decide +kernel
theorem dX7_power_2 : decode cX7_power 2 = .ok (.iconst 0, 1) := by decide +kernel
theorem dX7_power_3 : decode cX7_power 3 = .ok (.istore 4, 2) := by decide +kernel
theorem dX7_power_5 : decode cX7_power 5 = .ok (.iload 4, 2) := by decide +kernel
theorem dX7_power_7 : decode cX7_power 7 = .ok (.iload_n 1, 1) := by decide +kernel
theorem dX7_power_8 : decode cX7_power 8 = .ok (.if_icmp .ge 14, 3) := by decide +kernel
theorem dX7_power_11 : decode cX7_power 11 = .ok (.lload_n 2, 1) := by decide +kernel
theorem dX7_power_12 : decode cX7_power 12 = .ok (.iload_n 0, 1) := by decide +kernel
theorem dX7_power_13 : decode cX7_power 13 = .ok (.i2l, 1) := by decide +kernel
theorem dX7_power_14 : decode cX7_power 14 = .ok (.lmul, 1) := by decide +kernel
theorem dX7_power_15 : decode cX7_power 15 = .ok (.lstore_n 2, 1) := by decide +kernel
theorem dX7_power_16 : decode cX7_power 16 = .ok (.iinc 4 1, 3) := by decide +kernel
theorem dX7_power_19 : decode cX7_power 19 = .ok (.goto (-14), 3) := by decide +kernel
theorem dX7_power_22 : decode cX7_power 22 = .ok (.lload_n 2, 1) := by decide +kernel
theorem dX7_power_23 : decode cX7_power 23 = .ok (.lreturn, 1) := by decide +kernel
theorem dX8_init_0 : decode cX8_init 0 = .ok (.aload_n 0, 1) := by decide +kernel
theorem dX8_init_1 : decode cX8_init 1 = .ok (.invokespecial 1, 3) := by decide +kernel
theorem dX8_init_4 : decode cX8_init 4 = .ok (.aload_n 0, 1) := by decide +kernel
theorem dX8_init_5 : decode cX8_init 5 = .ok (.sipush 300, 3) := by decide +kernel
theorem dX8_init_8 : decode cX8_init 8 = .ok (.newarray .byte, 2) := by decide +kernel
theorem dX8_init_10 : decode cX8_init 10 = .ok (.putfield 7, 3) := by decide +kernel
theorem dX8_init_13 : decode cX8_init 13 = .ok (.aload_n 0, 1) := by decide +kernel
theorem dX8_init_14 : decode cX8_init 14 = .ok (.iconst 2, 1) := by decide +kernel
theorem dX8_init_15 : decode cX8_init 15 = .ok (.newarray .int, 2) := by decide +kernel
theorem dX8_init_17 : decode cX8_init 17 = .ok (.putfield 13, 3) := by decide +kernel
theorem dX8_init_20 : decode cX8_init 20 = .ok (.aload_n 0, 1) := by decide +kernel
theorem dX8_init_21 : decode cX8_init 21 = .ok (.bipush 12, 2) := by decide +kernel
theorem dX8_init_23 : decode cX8_init 23 = .ok (.newarray .int, 2) := by decide +kernel
theorem dX8_init_25 : decode cX8_init 25 = .ok (.putfield 17, 3) := by decide +kernel
theorem dX8_init_28 : decode cX8_init 28 = .ok (.aload_n 0, 1) := by decide +kernel
theorem dX8_init_29 : decode cX8_init 29 = .ok (.bipush 12, 2) := by decide +kernel
theorem dX8_init_31 : decode cX8_init 31 = .ok (.newarray .int, 2) := by decide +kernel
theorem dX8_init_33 : decode cX8_init 33 = .ok (.putfield 20, 3) := by decide +kernel
theorem dX8_init_36 : decode cX8_init 36 = .ok (.aload_n 0, 1) := by decide +kernel
theorem dX8_init_37 : decode cX8_init 37 = .ok (.bipush 12, 2) := by decide +kernel
theorem dX8_init_39 : decode cX8_init 39 = .ok (.newarray .int, 2) := by decide +kernel
theorem dX8_init_41 : decode cX8_init 41 = .ok (.putfield 23, 3) := by decide +kernel
theorem dX8_init_44 : decode cX8_init 44 = .ok (.aload_n 0, 1) := by decide +kernel
theorem dX8_init_45 : decode cX8_init 45 = .ok (.iconst 2, 1) := by decide +kernel
theorem dX8_init_46 : decode cX8_init 46 = .ok (.newarray .int, 2) := by decide +kernel
theorem dX8_init_48 : decode cX8_init 48 = .ok (.putfield 26, 3) := by decide +kernel
theorem dX8_init_51 : decode cX8_init 51 = .ok (.aload_n 0, 1) := by decide +kernel
theorem dX8_init_52 : decode cX8_init 52 = .ok (.bipush 10, 2) := by decide +kernel
theorem dX8_init_54 : decode cX8_init 54 = .ok (.newarray .int, 2) := by decide +kernel
theorem dX8_init_56 : decode cX8_init 56 = .ok (.putfield 29, 3) := by decide +kernel
theorem dX8_init_59 : decode cX8_init 59 = .ok (.aload_n 0, 1) := by decide +kernel
theorem dX8_init_60 : decode cX8_init 60 = .ok (.bipush 10, 2) := by decide +kernel
theorem dX8_init_62 : decode cX8_init 62 = .ok (.newarray .int, 2) := by decide +kernel
theorem dX8_init_64 : decode cX8_init 64 = .ok (.putfield 32, 3) := by decide +kernel
theorem dX8_init_67 : decode cX8_init 67 = .ok (.aload_n 0, 1) := by decide +kernel
theorem dX8_init_68 : decode cX8_init 68 = .ok (.iconst 2, 1) := by decide +kernel
theorem dX8_init_69 : decode cX8_init 69 = .ok (.newarray .int, 2) := by decide +kernel
theorem dX8_init_71 : decode cX8_init 71 = .ok (.putfield 35, 3) := by decide +kernel
theorem dX8_init_74 : decode cX8_init 74 = .ok (.aload_n 0, 1) := by decide +kernel
theorem dX8_init_75 : decode cX8_init 75 = .ok (.bipush 48, 2) := by decide +kernel
theorem dX8_init_77 : decode cX8_init 77 = .ok (.newarray .int, 2) := by decide +kernel
theorem dX8_init_79 : decode cX8_init 79 = .ok (.putfield 38, 3) := by decide +kernel
theorem dX8_init_82 : decode cX8_init 82 = .ok (.aload_n 0, 1) := by decide +kernel
theorem dX8_init_83 : decode cX8_init 83 = .ok (.bipush 104, 2) := by decide +kernel
theorem dX8_init_85 : decode cX8_init 85 = .ok (.newarray .int, 2) := by decide +kernel
theorem dX8_init_87 : decode cX8_init 87 = .ok (.putfield 41, 3) := by decide +kernel
theorem dX8_init_90 : decode cX8_init 90 = .ok (.aload_n 0, 1) := by decide +kernel
theorem dX8_init_91 : decode cX8_init 91 = .ok (.iconst 2, 1) := by decide +kernel
theorem dX8_init_92 : decode cX8_init 92 = .ok (.newarray .boolean, 2) := by decide +kernel
theorem dX8_init_94 : decode cX8_init 94 = .ok (.putfield 44, 3) := by decide +kernel
theorem dX8_init_97 : decode cX8_init 97 = .ok (.aload_n 0, 1) := by decide +kernel
theorem dX8_init_98 : decode cX8_init 98 = .ok (.bipush 6, 2) := by decide +kernel
theorem dX8_init_100 : decode cX8_init 100 = .ok (.newarray .int, 2) := by decide +kernel
theorem dX8_init_102 : decode cX8_init 102 = .ok (.putfield 48, 3) := by decide +kernel
theorem dX8_init_105 : decode cX8_init 105 = .ok (.aload_n 0, 1) := by decide +kernel
theorem dX8_init_106 : decode cX8_init 106 = .ok (.bipush 6, 2) := by decide +kernel
theorem dX8_init_108 : decode cX8_init 108 = .ok (.newarray .int, 2) := by decide +kernel
theorem dX8_init_110 : decode cX8_init 110 = .ok (.putfield 51, 3) := by decide +kernel
theorem dX8_init_113 : decode cX8_init 113 = .ok (.aload_n 0, 1) := by decide +kernel
theorem dX8_init_114 : decode cX8_init 114 = .ok (.iconst 5, 1) := by decide +kernel
theorem dX8_init_115 : decode cX8_init 115 = .ok (.newarray .int, 2) := by decide +kernel
theorem dX8_init_117 : decode cX8_init 117 = .ok (.putfield 54, 3) := by decide +kernel
theorem dX8_init_120 : decode cX8_init 120 = .ok (.aload_n 0, 1) := by decide +kernel
theorem dX8_init_121 : decode cX8_init 121 = .ok (.iconst 5, 1) := by decide +kernel
theorem dX8_init_122 : decode cX8_init 122 = .ok (.newarray .int, 2) := by decide +kernel
theorem dX8_init_124 : decode cX8_init 124 = .ok (.putfield 57, 3) := by decide +kernel
theorem dX8_init_127 : decode cX8_init 127 = .ok (.aload_n 0, 1) := by decide +kernel
theorem dX8_init_128 : decode cX8_init 128 = .ok (.bipush 60, 2) := by decide +kernel
theorem dX8_init_130 : decode cX8_init 130 = .ok (.newarray .int, 2) := by decide +kernel
theorem dX8_init_132 : decode cX8_init 132 = .ok (.putfield 60, 3) := by decide +kernel
theorem dX8_init_135 : decode cX8_init 135 = .ok (.aload_n 0, 1) := by decide +kernel
theorem dX8_init_136 : decode cX8_init 136 = .ok (.bipush 30, 2) := by decide +kernel
theorem dX8_init_138 : decode cX8_init 138 = .ok (.newarray .int, 2) := by decide +kernel
theorem dX8_init_140 : decode cX8_init 140 = .ok (.putfield 63, 3) := by decide +kernel
theorem dX8_init_143 : decode cX8_init 143 = .ok (.return_, 1) := by decide +kernel
theorem dX8_in_0 : decode cX8_in 0 = .ok (.iload_n 0, 1) := by decide +kernel
theorem dX8_in_1 : decode cX8_in 1 = .ok (.iload_n 1, 1) := by decide +kernel
theorem dX8_in_2 : decode cX8_in 2 = .ok (.if_icmp .lt 12, 3) := by decide +kernel
theorem dX8_in_5 : decode cX8_in 5 = .ok (.iload_n 0, 1) := by decide +kernel
theorem dX8_in_6 : decode cX8_in 6 = .ok (.iload_n 2, 1) := by decide +kernel
theorem dX8_in_7 : decode cX8_in 7 = .ok (.if_icmp .gt 7, 3) := by decide +kernel
theorem dX8_in_10 : decode cX8_in 10 = .ok (.iconst 1, 1) := by decide +kernel
theorem dX8_in_11 : decode cX8_in 11 = .ok (.goto 4, 3) := by decide +kernel
theorem dX8_in_14 : decode cX8_in 14 = .ok (.iconst 0, 1) := by decide +kernel
theorem dX8_in_15 : decode cX8_in 15 = .ok (.ireturn, 1) := by decide +kernel
set_option maxRecDepth 20000 in
theorem ggX8_type_X8_in : GoodIn wsX8_type wsX8_in := goodIn_r _ [7] (by decide +kernel) (by decide +kernel)
set_option maxRecDepth 20000 in
theorem gX8_type_X8_in : GoodIn wsX8_type (va_wsS RX8 66 yX8_in wsX8_in) := goodIn_app (goodIn_of _ (by decide +kernel)) ggX8_type_X8_in
theorem dX8_type_0 : decode cX8_type 0 = .ok (.iload_n 3, 1) := by decide +kernel
theorem dX8_type_1 : decode cX8_type 1 = .ok (.iconst 1, 1) := by decide +kernel
theorem dX8_type_2 : decode cX8_type 2 = .ok (.bipush 8, 2) := by decide +kernel
theorem dX8_type_4 : decode cX8_type 4 = .ok (.invokestatic 66, 3) := by decide +kernel
theorem dX8_type_7 : decode cX8_type 7 = .ok (.ifCond .ne 5, 3) := by decide +kernel
theorem dX8_type_10 : decode cX8_type 10 = .ok (.iconst (-1), 1) := by decide +kernel
theorem dX8_type_11 : decode cX8_type 11 = .ok (.ireturn, 1) := by decide +kernel
theorem dX8_type_12 : decode cX8_type 12 = .ok (.aload_n 0, 1) := by decide +kernel
theorem dX8_type_13 : decode cX8_type 13 = .ok (.getfield 70, 3) := by decide +kernel
theorem dX8_type_16 : decode cX8_type 16 = .ok (.iload_n 3, 1) := by decide +kernel
theorem dX8_type_17 : decode cX8_type 17 = .ok (.iadd, 1) := by decide +kernel
theorem dX8_type_18 : decode cX8_type 18 = .ok (.sipush 300, 3) := by decide +kernel
theorem dX8_type_21 : decode cX8_type 21 = .ok (.if_icmp .le 6, 3) := by decide +kernel
theorem dX8_type_24 : decode cX8_type 24 = .ok (.bipush (-3), 2) := by decide +kernel
theorem dX8_type_26 : decode cX8_type 26 = .ok (.ireturn, 1) := by decide +kernel
theorem dX8_type_27 : decode cX8_type 27 = .ok (.iload_n 3, 1) := by decide +kernel
theorem dX8_type_28 : decode cX8_type 28 = .ok (.iconst 1, 1) := by decide +kernel
theorem dX8_type_29 : decode cX8_type 29 = .ok (.isub, 1) := by decide +kernel
theorem dX8_type_30 : decode cX8_type 30 = .ok (.istore 4, 2) := by decide +kernel
theorem dX8_type_32 : decode cX8_type 32 = .ok (.iload 4, 2) := by decide +kernel
theorem dX8_type_34 : decode cX8_type 34 = .ok (.ifCond .lt 41, 3) := by decide +kernel
theorem dX8_type_37 : decode cX8_type 37 = .ok (.aload_n 0, 1) := by decide +kernel
theorem dX8_type_38 : decode cX8_type 38 = .ok (.getfield 7, 3) := by decide +kernel
theorem dX8_type_41 : decode cX8_type 41 = .ok (.aload_n 0, 1) := by decide +kernel
theorem dX8_type_42 : decode cX8_type 42 = .ok (.getfield 70, 3) := by decide +kernel
theorem dX8_type_45 : decode cX8_type 45 = .ok (.lload_n 1, 1) := by decide +kernel
theorem dX8_type_46 : decode cX8_type 46 = .ok (.bipush 8, 2) := by decide +kernel
theorem dX8_type_48 : decode cX8_type 48 = .ok (.iload 4, 2) := by decide +kernel
theorem dX8_type_50 : decode cX8_type 50 = .ok (.imul, 1) := by decide +kernel
theorem dX8_type_51 : decode cX8_type 51 = .ok (.lshr, 1) := by decide +kernel
theorem dX8_type_52 : decode cX8_type 52 = .ok (.ldc2_w 74, 3) := by decide +kernel
theorem dX8_type_55 : decode cX8_type 55 = .ok (.land, 1) := by decide +kernel
theorem dX8_type_56 : decode cX8_type 56 = .ok (.l2i, 1) := by decide +kernel
theorem dX8_type_57 : decode cX8_type 57 = .ok (.i2b, 1) := by decide +kernel
theorem dX8_type_58 : decode cX8_type 58 = .ok (.bastore, 1) := by decide +kernel
theorem dX8_type_59 : decode cX8_type 59 = .ok (.aload_n 0, 1) := by decide +kernel
theorem dX8_type_60 : decode cX8_type 60 = .ok (.dup, 1) := by decide +kernel
theorem dX8_type_61 : decode cX8_type 61 = .ok (.getfield 70, 3) := by decide +kernel
theorem dX8_type_64 : decode cX8_type 64 = .ok (.iconst 1, 1) := by decide +kernel
theorem dX8_type_65 : decode cX8_type 65 = .ok (.iadd, 1) := by decide +kernel
theorem dX8_type_66 : decode cX8_type 66 = .ok (.putfield 70, 3) := by decide +kernel
theorem dX8_type_69 : decode cX8_type 69 = .ok (.iinc 4 (-1), 3) := by decide +kernel
theorem dX8_type_72 : decode cX8_type 72 = .ok (.goto (-40), 3) := by decide +kernel
theorem dX8_type_75 : decode cX8_type 75 = .ok (.aload_n 0, 1) := by decide +kernel
theorem dX8_type_76 : decode cX8_type 76 = .ok (.getfield 70, 3) := by decide +kernel
theorem dX8_type_79 : decode cX8_type 79 = .ok (.ireturn, 1) := by decide +kernel
theorem dX8_clear_0 : decode cX8_clear 0 = .ok (.aload_n 0, 1) := by decide +kernel
theorem dX8_clear_1 : decode cX8_clear 1 = .ok (.getfield 70, 3) := by decide +kernel
theorem dX8_clear_4 : decode cX8_clear 4 = .ok (.istore_n 1, 1) := by decide +kernel
theorem dX8_clear_5 : decode cX8_clear 5 = .ok (.aload_n 0, 1) := by decide +kernel
theorem dX8_clear_6 : decode cX8_clear 6 = .ok (.iconst 0, 1) := by decide +kernel
theorem dX8_clear_7 : decode cX8_clear 7 = .ok (.putfield 70, 3) := by decide +kernel
theorem dX8_clear_10 : decode cX8_clear 10 = .ok (.iload_n 1, 1) := by decide +kernel
theorem dX8_clear_11 : decode cX8_clear 11 = .ok (.ireturn, 1) := by decide +kernel
theorem dX8_here_0 : decode cX8_here 0 = .ok (.aload_n 0, 1) := by decide +kernel
theorem dX8_here_1 : decode cX8_here 1 = .ok (.getfield 76, 3) := by decide +kernel
theorem dX8_here_4 : decode cX8_here 4 = .ok (.aload_n 0, 1) := by decide +kernel
theorem dX8_here_5 : decode cX8_here 5 = .ok (.getfield 70, 3) := by decide +kernel
theorem dX8_here_8 : decode cX8_here 8 = .ok (.if_icmp .ge 19, 3) := by decide +kernel
theorem dX8_here_11 : decode cX8_here 11 = .ok (.aload_n 0, 1) := by decide +kernel
theorem dX8_here_12 : decode cX8_here 12 = .ok (.getfield 7, 3) := by decide +kernel
theorem dX8_here_15 : decode cX8_here 15 = .ok (.aload_n 0, 1) := by decide +kernel
theorem dX8_here_16 : decode cX8_here 16 = .ok (.getfield 76, 3) := by decide +kernel
theorem dX8_here_19 : decode cX8_here 19 = .ok (.baload, 1) := by decide +kernel
theorem dX8_here_20 : decode cX8_here 20 = .ok (.sipush 255, 3) := by decide +kernel
theorem dX8_here_23 : decode cX8_here 23 = .ok (.iand, 1) := by decide +kernel
theorem dX8_here_24 : decode cX8_here 24 = .ok (.goto 4, 3) := by decide +kernel
theorem dX8_here_27 : decode cX8_here 27 = .ok (.iconst (-1), 1) := by decide +kernel
theorem dX8_here_28 : decode cX8_here 28 = .ok (.ireturn, 1) := by decide +kernel
theorem dX8_meaning_0 : decode cX8_meaning 0 = .ok (.iload_n 0, 1) := by decide +kernel
theorem dX8_meaning_1 : decode cX8_meaning 1 = .ok (.lookupswitch 51 #[(14432, 47), (355280, 49), (386066, 45), (8683934, 43)], 43) := by decide +kernel
theorem dX8_meaning_44 : decode cX8_meaning 44 = .ok (.iconst 0, 1) := by decide +kernel
theorem dX8_meaning_45 : decode cX8_meaning 45 = .ok (.ireturn, 1) := by decide +kernel
theorem dX8_meaning_46 : decode cX8_meaning 46 = .ok (.iconst 1, 1) := by decide +kernel
theorem dX8_meaning_47 : decode cX8_meaning 47 = .ok (.ireturn, 1) := by decide +kernel
theorem dX8_meaning_48 : decode cX8_meaning 48 = .ok (.iconst 2, 1) := by decide +kernel
theorem dX8_meaning_49 : decode cX8_meaning 49 = .ok (.ireturn, 1) := by decide +kernel
theorem dX8_meaning_50 : decode cX8_meaning 50 = .ok (.iconst 3, 1) := by decide +kernel
theorem dX8_meaning_51 : decode cX8_meaning 51 = .ok (.ireturn, 1) := by decide +kernel
theorem dX8_meaning_52 : decode cX8_meaning 52 = .ok (.bipush 7, 2) := by decide +kernel
theorem dX8_meaning_54 : decode cX8_meaning 54 = .ok (.ireturn, 1) := by decide +kernel
set_option maxRecDepth 20000 in
theorem ggX8_next_X8_here : GoodIn wsX8_next wsX8_here := goodIn_r _ [9, 1, 10, 11, 18, 19, 20, 21, 22, 23, 24, 25, 26, 27, 28, 29, 30, 31, 32, 33, 34, 35, 36, 37, 38, 39, 40, 41, 42, 43] (by decide +kernel) (by decide +kernel)
set_option maxRecDepth 20000 in
theorem gX8_next_X8_here : GoodIn wsX8_next (wsV RX8 79 RX8 yX8_here wsX8_here) := goodIn_app (goodIn_of _ (by decide +kernel)) ggX8_next_X8_here
set_option maxRecDepth 20000 in
theorem ggX8_next_X8_in : GoodIn wsX8_next wsX8_in := goodIn_r _ [14] (by decide +kernel) (by decide +kernel)
set_option maxRecDepth 20000 in
theorem gX8_next_X8_in : GoodIn wsX8_next (va_wsS RX8 66 yX8_in wsX8_in) := goodIn_app (goodIn_of _ (by decide +kernel)) ggX8_next_X8_in
set_option maxRecDepth 20000 in
theorem ggX8_next_X8_meaning : GoodIn wsX8_next wsX8_meaning := goodIn_r _ [17] (by decide +kernel) (by decide +kernel)
set_option maxRecDepth 20000 in
theorem gX8_next_X8_meaning : GoodIn wsX8_next (va_wsS RX8 92 yX8_meaning wsX8_meaning) := goodIn_app (goodIn_of _ (by decide +kernel)) ggX8_next_X8_meaning
theorem dX8_next_0 : decode cX8_next 0 = .ok (.aload_n 0, 1) := by decide +kernel
theorem dX8_next_1 : decode cX8_next 1 = .ok (.invokevirtual 79, 3) := by decide +kernel
theorem dX8_next_4 : decode cX8_next 4 = .ok (.bipush 32, 2) := by decide +kernel
theorem dX8_next_6 : decode cX8_next 6 = .ok (.if_icmp .ne 16, 3) := by decide +kernel
theorem dX8_next_9 : decode cX8_next 9 = .ok (.aload_n 0, 1) := by decide +kernel
theorem dX8_next_10 : decode cX8_next 10 = .ok (.dup, 1) := by decide +kernel
theorem dX8_next_11 : decode cX8_next 11 = .ok (.getfield 76, 3) := by decide +kernel
theorem dX8_next_14 : decode cX8_next 14 = .ok (.iconst 1, 1) := by decide +kernel
theorem dX8_next_15 : decode cX8_next 15 = .ok (.iadd, 1) := by decide +kernel
theorem dX8_next_16 : decode cX8_next 16 = .ok (.putfield 76, 3) := by decide +kernel
theorem dX8_next_19 : decode cX8_next 19 = .ok (.goto (-19), 3) := by decide +kernel
theorem dX8_next_22 : decode cX8_next 22 = .ok (.aload_n 0, 1) := by decide +kernel
theorem dX8_next_23 : decode cX8_next 23 = .ok (.aload_n 0, 1) := by decide +kernel
theorem dX8_next_24 : decode cX8_next 24 = .ok (.getfield 76, 3) := by decide +kernel
theorem dX8_next_27 : decode cX8_next 27 = .ok (.putfield 83, 3) := by decide +kernel
theorem dX8_next_30 : decode cX8_next 30 = .ok (.aload_n 0, 1) := by decide +kernel
theorem dX8_next_31 : decode cX8_next 31 = .ok (.iconst 0, 1) := by decide +kernel
theorem dX8_next_32 : decode cX8_next 32 = .ok (.putfield 86, 3) := by decide +kernel
theorem dX8_next_35 : decode cX8_next 35 = .ok (.aload_n 0, 1) := by decide +kernel
theorem dX8_next_36 : decode cX8_next 36 = .ok (.invokevirtual 79, 3) := by decide +kernel
theorem dX8_next_39 : decode cX8_next 39 = .ok (.istore_n 1, 1) := by decide +kernel
theorem dX8_next_40 : decode cX8_next 40 = .ok (.iload_n 1, 1) := by decide +kernel
theorem dX8_next_41 : decode cX8_next 41 = .ok (.ifCond .ge 11, 3) := by decide +kernel
theorem dX8_next_44 : decode cX8_next 44 = .ok (.aload_n 0, 1) := by decide +kernel
theorem dX8_next_45 : decode cX8_next 45 = .ok (.iconst 4, 1) := by decide +kernel
theorem dX8_next_46 : decode cX8_next 46 = .ok (.putfield 89, 3) := by decide +kernel
theorem dX8_next_49 : decode cX8_next 49 = .ok (.goto 242, 3) := by decide +kernel
theorem dX8_next_52 : decode cX8_next 52 = .ok (.iload_n 1, 1) := by decide +kernel
theorem dX8_next_53 : decode cX8_next 53 = .ok (.bipush 97, 2) := by decide +kernel
theorem dX8_next_55 : decode cX8_next 55 = .ok (.bipush 122, 2) := by decide +kernel
theorem dX8_next_57 : decode cX8_next 57 = .ok (.invokestatic 66, 3) := by decide +kernel
theorem dX8_next_60 : decode cX8_next 60 = .ok (.ifCond .eq 90, 3) := by decide +kernel
theorem dX8_next_63 : decode cX8_next 63 = .ok (.iconst 0, 1) := by decide +kernel
theorem dX8_next_64 : decode cX8_next 64 = .ok (.istore_n 2, 1) := by decide +kernel
theorem dX8_next_65 : decode cX8_next 65 = .ok (.aload_n 0, 1) := by decide +kernel
theorem dX8_next_66 : decode cX8_next 66 = .ok (.invokevirtual 79, 3) := by decide +kernel
theorem dX8_next_69 : decode cX8_next 69 = .ok (.bipush 97, 2) := by decide +kernel
theorem dX8_next_71 : decode cX8_next 71 = .ok (.bipush 122, 2) := by decide +kernel
theorem dX8_next_73 : decode cX8_next 73 = .ok (.invokestatic 66, 3) := by decide +kernel
theorem dX8_next_76 : decode cX8_next 76 = .ok (.ifCond .eq 46, 3) := by decide +kernel
theorem dX8_next_79 : decode cX8_next 79 = .ok (.aload_n 0, 1) := by decide +kernel
theorem dX8_next_80 : decode cX8_next 80 = .ok (.getfield 76, 3) := by decide +kernel
theorem dX8_next_83 : decode cX8_next 83 = .ok (.aload_n 0, 1) := by decide +kernel
theorem dX8_next_84 : decode cX8_next 84 = .ok (.getfield 83, 3) := by decide +kernel
theorem dX8_next_87 : decode cX8_next 87 = .ok (.isub, 1) := by decide +kernel
theorem dX8_next_88 : decode cX8_next 88 = .ok (.iconst 5, 1) := by decide +kernel
theorem dX8_next_89 : decode cX8_next 89 = .ok (.if_icmp .ge 18, 3) := by decide +kernel
theorem dX8_next_92 : decode cX8_next 92 = .ok (.bipush 27, 2) := by decide +kernel
theorem dX8_next_94 : decode cX8_next 94 = .ok (.iload_n 2, 1) := by decide +kernel
theorem dX8_next_95 : decode cX8_next 95 = .ok (.imul, 1) := by decide +kernel
theorem dX8_next_96 : decode cX8_next 96 = .ok (.aload_n 0, 1) := by decide +kernel
theorem dX8_next_97 : decode cX8_next 97 = .ok (.invokevirtual 79, 3) := by decide +kernel
theorem dX8_next_100 : decode cX8_next 100 = .ok (.iadd, 1) := by decide +kernel
theorem dX8_next_101 : decode cX8_next 101 = .ok (.bipush 96, 2) := by decide +kernel
theorem dX8_next_103 : decode cX8_next 103 = .ok (.isub, 1) := by decide +kernel
theorem dX8_next_104 : decode cX8_next 104 = .ok (.goto 4, 3) := by decide +kernel
theorem dX8_next_107 : decode cX8_next 107 = .ok (.iconst 0, 1) := by decide +kernel
theorem dX8_next_108 : decode cX8_next 108 = .ok (.istore_n 2, 1) := by decide +kernel
theorem dX8_next_109 : decode cX8_next 109 = .ok (.aload_n 0, 1) := by decide +kernel
theorem dX8_next_110 : decode cX8_next 110 = .ok (.dup, 1) := by decide +kernel
theorem dX8_next_111 : decode cX8_next 111 = .ok (.getfield 76, 3) := by decide +kernel
theorem dX8_next_114 : decode cX8_next 114 = .ok (.iconst 1, 1) := by decide +kernel
theorem dX8_next_115 : decode cX8_next 115 = .ok (.iadd, 1) := by decide +kernel
theorem dX8_next_116 : decode cX8_next 116 = .ok (.putfield 76, 3) := by decide +kernel
theorem dX8_next_119 : decode cX8_next 119 = .ok (.goto (-54), 3) := by decide +kernel
theorem dX8_next_122 : decode cX8_next 122 = .ok (.aload_n 0, 1) := by decide +kernel
theorem dX8_next_123 : decode cX8_next 123 = .ok (.aload_n 0, 1) := by decide +kernel
theorem dX8_next_124 : decode cX8_next 124 = .ok (.getfield 76, 3) := by decide +kernel
theorem dX8_next_127 : decode cX8_next 127 = .ok (.aload_n 0, 1) := by decide +kernel
theorem dX8_next_128 : decode cX8_next 128 = .ok (.getfield 83, 3) := by decide +kernel
theorem dX8_next_131 : decode cX8_next 131 = .ok (.isub, 1) := by decide +kernel
theorem dX8_next_132 : decode cX8_next 132 = .ok (.iconst 5, 1) := by decide +kernel
theorem dX8_next_133 : decode cX8_next 133 = .ok (.if_icmp .le 7, 3) := by decide +kernel
theorem dX8_next_136 : decode cX8_next 136 = .ok (.iconst 0, 1) := by decide +kernel
theorem dX8_next_137 : decode cX8_next 137 = .ok (.goto 4, 3) := by decide +kernel
theorem dX8_next_140 : decode cX8_next 140 = .ok (.iload_n 2, 1) := by decide +kernel
theorem dX8_next_141 : decode cX8_next 141 = .ok (.invokestatic 92, 3) := by decide +kernel
theorem dX8_next_144 : decode cX8_next 144 = .ok (.putfield 89, 3) := by decide +kernel
theorem dX8_next_147 : decode cX8_next 147 = .ok (.goto 144, 3) := by decide +kernel
theorem dX8_next_150 : decode cX8_next 150 = .ok (.iload_n 1, 1) := by decide +kernel
theorem dX8_next_151 : decode cX8_next 151 = .ok (.bipush 48, 2) := by decide +kernel
theorem dX8_next_153 : decode cX8_next 153 = .ok (.bipush 57, 2) := by decide +kernel
theorem dX8_next_155 : decode cX8_next 155 = .ok (.invokestatic 66, 3) := by decide +kernel
theorem dX8_next_158 : decode cX8_next 158 = .ok (.ifCond .eq 106, 3) := by decide +kernel
theorem dX8_next_161 : decode cX8_next 161 = .ok (.aload_n 0, 1) := by decide +kernel
theorem dX8_next_162 : decode cX8_next 162 = .ok (.invokevirtual 79, 3) := by decide +kernel
theorem dX8_next_165 : decode cX8_next 165 = .ok (.bipush 48, 2) := by decide +kernel
theorem dX8_next_167 : decode cX8_next 167 = .ok (.bipush 57, 2) := by decide +kernel
theorem dX8_next_169 : decode cX8_next 169 = .ok (.invokestatic 66, 3) := by decide +kernel
theorem dX8_next_172 : decode cX8_next 172 = .ok (.ifCond .eq 51, 3) := by decide +kernel
theorem dX8_next_175 : decode cX8_next 175 = .ok (.aload_n 0, 1) := by decide +kernel
theorem dX8_next_176 : decode cX8_next 176 = .ok (.aload_n 0, 1) := by decide +kernel
theorem dX8_next_177 : decode cX8_next 177 = .ok (.getfield 86, 3) := by decide +kernel
theorem dX8_next_180 : decode cX8_next 180 = .ok (.bipush 99, 2) := by decide +kernel
theorem dX8_next_182 : decode cX8_next 182 = .ok (.if_icmp .le 10, 3) := by decide +kernel
theorem dX8_next_185 : decode cX8_next 185 = .ok (.aload_n 0, 1) := by decide +kernel
theorem dX8_next_186 : decode cX8_next 186 = .ok (.getfield 86, 3) := by decide +kernel
theorem dX8_next_189 : decode cX8_next 189 = .ok (.goto 18, 3) := by decide +kernel
theorem dX8_next_192 : decode cX8_next 192 = .ok (.bipush 10, 2) := by decide +kernel
theorem dX8_next_194 : decode cX8_next 194 = .ok (.aload_n 0, 1) := by decide +kernel
theorem dX8_next_195 : decode cX8_next 195 = .ok (.getfield 86, 3) := by decide +kernel
theorem dX8_next_198 : decode cX8_next 198 = .ok (.imul, 1) := by decide +kernel
theorem dX8_next_199 : decode cX8_next 199 = .ok (.aload_n 0, 1) := by decide +kernel
theorem dX8_next_200 : decode cX8_next 200 = .ok (.invokevirtual 79, 3) := by decide +kernel
theorem dX8_next_203 : decode cX8_next 203 = .ok (.iadd, 1) := by decide +kernel
theorem dX8_next_204 : decode cX8_next 204 = .ok (.bipush 48, 2) := by decide +kernel
theorem dX8_next_206 : decode cX8_next 206 = .ok (.isub, 1) := by decide +kernel
theorem dX8_next_207 : decode cX8_next 207 = .ok (.putfield 86, 3) := by decide +kernel
theorem dX8_next_210 : decode cX8_next 210 = .ok (.aload_n 0, 1) := by decide +kernel
theorem dX8_next_211 : decode cX8_next 211 = .ok (.dup, 1) := by decide +kernel
theorem dX8_next_212 : decode cX8_next 212 = .ok (.getfield 76, 3) := by decide +kernel
theorem dX8_next_215 : decode cX8_next 215 = .ok (.iconst 1, 1) := by decide +kernel
theorem dX8_next_216 : decode cX8_next 216 = .ok (.iadd, 1) := by decide +kernel
theorem dX8_next_217 : decode cX8_next 217 = .ok (.putfield 76, 3) := by decide +kernel
theorem dX8_next_220 : decode cX8_next 220 = .ok (.goto (-59), 3) := by decide +kernel
theorem dX8_next_223 : decode cX8_next 223 = .ok (.aload_n 0, 1) := by decide +kernel
theorem dX8_next_224 : decode cX8_next 224 = .ok (.aload_n 0, 1) := by decide +kernel
theorem dX8_next_225 : decode cX8_next 225 = .ok (.getfield 86, 3) := by decide +kernel
theorem dX8_next_228 : decode cX8_next 228 = .ok (.bipush 99, 2) := by decide +kernel
theorem dX8_next_230 : decode cX8_next 230 = .ok (.if_icmp .gt 22, 3) := by decide +kernel
theorem dX8_next_233 : decode cX8_next 233 = .ok (.iload_n 1, 1) := by decide +kernel
theorem dX8_next_234 : decode cX8_next 234 = .ok (.bipush 48, 2) := by decide +kernel
theorem dX8_next_236 : decode cX8_next 236 = .ok (.if_icmp .ne 21, 3) := by decide +kernel
theorem dX8_next_239 : decode cX8_next 239 = .ok (.aload_n 0, 1) := by decide +kernel
theorem dX8_next_240 : decode cX8_next 240 = .ok (.getfield 76, 3) := by decide +kernel
theorem dX8_next_243 : decode cX8_next 243 = .ok (.aload_n 0, 1) := by decide +kernel
theorem dX8_next_244 : decode cX8_next 244 = .ok (.getfield 83, 3) := by decide +kernel
theorem dX8_next_247 : decode cX8_next 247 = .ok (.isub, 1) := by decide +kernel
theorem dX8_next_248 : decode cX8_next 248 = .ok (.iconst 1, 1) := by decide +kernel
theorem dX8_next_249 : decode cX8_next 249 = .ok (.if_icmp .le 8, 3) := by decide +kernel
theorem dX8_next_252 : decode cX8_next 252 = .ok (.bipush 7, 2) := by decide +kernel
theorem dX8_next_254 : decode cX8_next 254 = .ok (.goto 4, 3) := by decide +kernel
theorem dX8_next_257 : decode cX8_next 257 = .ok (.iconst 5, 1) := by decide +kernel
theorem dX8_next_258 : decode cX8_next 258 = .ok (.putfield 89, 3) := by decide +kernel
theorem dX8_next_261 : decode cX8_next 261 = .ok (.goto 30, 3) := by decide +kernel
theorem dX8_next_264 : decode cX8_next 264 = .ok (.aload_n 0, 1) := by decide +kernel
theorem dX8_next_265 : decode cX8_next 265 = .ok (.dup, 1) := by decide +kernel
theorem dX8_next_266 : decode cX8_next 266 = .ok (.getfield 76, 3) := by decide +kernel
theorem dX8_next_269 : decode cX8_next 269 = .ok (.iconst 1, 1) := by decide +kernel
theorem dX8_next_270 : decode cX8_next 270 = .ok (.iadd, 1) := by decide +kernel
theorem dX8_next_271 : decode cX8_next 271 = .ok (.putfield 76, 3) := by decide +kernel
theorem dX8_next_274 : decode cX8_next 274 = .ok (.aload_n 0, 1) := by decide +kernel
theorem dX8_next_275 : decode cX8_next 275 = .ok (.iload_n 1, 1) := by decide +kernel
theorem dX8_next_276 : decode cX8_next 276 = .ok (.bipush 59, 2) := by decide +kernel
theorem dX8_next_278 : decode cX8_next 278 = .ok (.if_icmp .ne 8, 3) := by decide +kernel
theorem dX8_next_281 : decode cX8_next 281 = .ok (.bipush 6, 2) := by decide +kernel
theorem dX8_next_283 : decode cX8_next 283 = .ok (.goto 5, 3) := by decide +kernel
theorem dX8_next_286 : decode cX8_next 286 = .ok (.bipush 7, 2) := by decide +kernel
theorem dX8_next_288 : decode cX8_next 288 = .ok (.putfield 89, 3) := by decide +kernel
theorem dX8_next_291 : decode cX8_next 291 = .ok (.return_, 1) := by decide +kernel
set_option maxRecDepth 20000 in
theorem ggX8_due_X8_next : GoodIn wsX8_due wsX8_next := goodIn_r _ [8, 9, 3, 1, 10, 11, 12, 13, 7, 14, 15, 16, 17, 18, 19, 20, 21, 22, 23, 24, 25, 26, 27, 28, 29, 30, 31, 32, 33, 34, 35, 36, 37, 38, 39, 40, 41, 42, 43, 44, 45, 46, 47, 48] (by decide +kernel) (by decide +kernel)
set_option maxRecDepth 20000 in
theorem gX8_due_X8_next : GoodIn wsX8_due (wsV RX8 99 RX8 yX8_next wsX8_next) := goodIn_app (goodIn_of _ (by decide +kernel)) ggX8_due_X8_next
theorem dX8_due_0 : decode cX8_due 0 = .ok (.aload_n 0, 1) := by decide +kernel
theorem dX8_due_1 : decode cX8_due 1 = .ok (.getfield 86, 3) := by decide +kernel
theorem dX8_due_4 : decode cX8_due 4 = .ok (.istore_n 2, 1) := by decide +kernel
theorem dX8_due_5 : decode cX8_due 5 = .ok (.aload_n 0, 1) := by decide +kernel
theorem dX8_due_6 : decode cX8_due 6 = .ok (.getfield 96, 3) := by decide +kernel
theorem dX8_due_9 : decode cX8_due 9 = .ok (.bipush (-9), 2) := by decide +kernel
theorem dX8_due_11 : decode cX8_due 11 = .ok (.if_icmp .ne 22, 3) := by decide +kernel
theorem dX8_due_14 : decode cX8_due 14 = .ok (.iload_n 1, 1) := by decide +kernel
theorem dX8_due_15 : decode cX8_due 15 = .ok (.ifCond .eq 10, 3) := by decide +kernel
theorem dX8_due_18 : decode cX8_due 18 = .ok (.aload_n 0, 1) := by decide +kernel
theorem dX8_due_19 : decode cX8_due 19 = .ok (.invokevirtual 99, 3) := by decide +kernel
theorem dX8_due_22 : decode cX8_due 22 = .ok (.goto 11, 3) := by decide +kernel
theorem dX8_due_25 : decode cX8_due 25 = .ok (.aload_n 0, 1) := by decide +kernel
theorem dX8_due_26 : decode cX8_due 26 = .ok (.aload_n 0, 1) := by decide +kernel
theorem dX8_due_27 : decode cX8_due 27 = .ok (.getfield 83, 3) := by decide +kernel
theorem dX8_due_30 : decode cX8_due 30 = .ok (.putfield 96, 3) := by decide +kernel
theorem dX8_due_33 : decode cX8_due 33 = .ok (.iload_n 2, 1) := by decide +kernel
theorem dX8_due_34 : decode cX8_due 34 = .ok (.ireturn, 1) := by decide +kernel
set_option maxRecDepth 20000 in
theorem ggX8_number_X8_in : GoodIn wsX8_number wsX8_in := goodIn_r _ [6] (by decide +kernel) (by decide +kernel)
set_option maxRecDepth 20000 in
theorem gX8_number_X8_in : GoodIn wsX8_number (va_wsS RX8 66 yX8_in wsX8_in) := goodIn_app (goodIn_of _ (by decide +kernel)) ggX8_number_X8_in
set_option maxRecDepth 20000 in
theorem ggX8_number_X8_due : GoodIn wsX8_number wsX8_due := goodIn_r _ [10, 2, 11, 12, 13, 14, 15, 5, 16, 17, 1, 18, 19, 20, 21, 22, 23, 3, 4, 6, 24, 25, 26, 27, 28, 29, 30, 31, 32, 33, 34, 35, 36, 37, 38, 39, 40, 41, 42, 43, 44, 45, 46, 47, 48, 49, 50, 51, 52] (by decide +kernel) (by decide +kernel)
set_option maxRecDepth 20000 in
theorem gX8_number_X8_due : GoodIn wsX8_number (wsV RX8 102 RX8 yX8_due wsX8_due) := goodIn_app (goodIn_of _ (by decide +kernel)) ggX8_number_X8_due
theorem dX8_number_0 : decode cX8_number 0 = .ok (.aload_n 0, 1) := by decide +kernel
theorem dX8_number_1 : decode cX8_number 1 = .ok (.aload_n 0, 1) := by decide +kernel
theorem dX8_number_2 : decode cX8_number 2 = .ok (.getfield 89, 3) := by decide +kernel
theorem dX8_number_5 : decode cX8_number 5 = .ok (.iconst 5, 1) := by decide +kernel
theorem dX8_number_6 : decode cX8_number 6 = .ok (.if_icmp .ne 19, 3) := by decide +kernel
theorem dX8_number_9 : decode cX8_number 9 = .ok (.aload_n 0, 1) := by decide +kernel
theorem dX8_number_10 : decode cX8_number 10 = .ok (.getfield 86, 3) := by decide +kernel
theorem dX8_number_13 : decode cX8_number 13 = .ok (.iload_n 1, 1) := by decide +kernel
theorem dX8_number_14 : decode cX8_number 14 = .ok (.iload_n 2, 1) := by decide +kernel
theorem dX8_number_15 : decode cX8_number 15 = .ok (.invokestatic 66, 3) := by decide +kernel
theorem dX8_number_18 : decode cX8_number 18 = .ok (.ifCond .eq 7, 3) := by decide +kernel
theorem dX8_number_21 : decode cX8_number 21 = .ok (.iconst 1, 1) := by decide +kernel
theorem dX8_number_22 : decode cX8_number 22 = .ok (.goto 4, 3) := by decide +kernel
theorem dX8_number_25 : decode cX8_number 25 = .ok (.iconst 0, 1) := by decide +kernel
theorem dX8_number_26 : decode cX8_number 26 = .ok (.invokevirtual 102, 3) := by decide +kernel
theorem dX8_number_29 : decode cX8_number 29 = .ok (.ireturn, 1) := by decide +kernel
set_option maxRecDepth 20000 in
theorem ggX8_readItem_X8_due : GoodIn wsX8_readItem wsX8_due := goodIn_r _ [16, 17, 4, 18, 19, 20, 21, 15, 22, 23, 1, 24, 25, 26, 27, 28, 29, 30, 31, 32, 33, 34, 35, 40, 41, 42, 43, 44, 45, 46, 47, 48, 49, 50, 51, 52, 53, 54, 55, 56, 57, 58, 59, 60, 61, 62, 63, 64, 65] (by decide +kernel) (by decide +kernel)
set_option maxRecDepth 20000 in
theorem gX8_readItem_X8_due : GoodIn wsX8_readItem (wsV RX8 102 RX8 yX8_due wsX8_due) := goodIn_app (goodIn_of _ (by decide +kernel)) ggX8_readItem_X8_due
set_option maxRecDepth 20000 in
theorem ggX8_readItem_X8_number : GoodIn wsX8_readItem wsX8_number := goodIn_r _ [39, 1, 17, 30, 31, 15, 32, 12, 13, 14, 16, 4, 18, 19, 20, 21, 22, 23, 24, 25, 26, 27, 28, 29, 33, 34, 35, 40, 41, 42, 43, 44, 45, 46, 47, 48, 49, 50, 51, 52, 53, 54, 55, 56, 57, 58, 59, 60, 61, 62, 63, 64, 65] (by decide +kernel) (by decide +kernel)
set_option maxRecDepth 20000 in
theorem gX8_readItem_X8_number : GoodIn wsX8_readItem (wsV RX8 106 RX8 yX8_number wsX8_number) := goodIn_app (goodIn_of _ (by decide +kernel)) ggX8_readItem_X8_number
theorem dX8_readItem_0 : decode cX8_readItem 0 = .ok (.aload_n 0, 1) := by decide +kernel
theorem dX8_readItem_1 : decode cX8_readItem 1 = .ok (.getfield 89, 3) := by decide +kernel
theorem dX8_readItem_4 : decode cX8_readItem 4 = .ok (.istore_n 1, 1) := by decide +kernel
theorem dX8_readItem_5 : decode cX8_readItem 5 = .ok (.aload_n 0, 1) := by decide +kernel
theorem dX8_readItem_6 : decode cX8_readItem 6 = .ok (.iload_n 1, 1) := by decide +kernel
theorem dX8_readItem_7 : decode cX8_readItem 7 = .ok (.ifCond .ne 14, 3) := by decide +kernel
theorem dX8_readItem_10 : decode cX8_readItem 10 = .ok (.aload_n 0, 1) := by decide +kernel
theorem dX8_readItem_11 : decode cX8_readItem 11 = .ok (.getfield 13, 3) := by decide +kernel
theorem dX8_readItem_14 : decode cX8_readItem 14 = .ok (.iconst 1, 1) := by decide +kernel
theorem dX8_readItem_15 : decode cX8_readItem 15 = .ok (.iaload, 1) := by decide +kernel
theorem dX8_readItem_16 : decode cX8_readItem 16 = .ok (.bipush 6, 2) := by decide +kernel
theorem dX8_readItem_18 : decode cX8_readItem 18 = .ok (.if_icmp .lt 28, 3) := by decide +kernel
theorem dX8_readItem_21 : decode cX8_readItem 21 = .ok (.iload_n 1, 1) := by decide +kernel
theorem dX8_readItem_22 : decode cX8_readItem 22 = .ok (.iconst 1, 1) := by decide +kernel
theorem dX8_readItem_23 : decode cX8_readItem 23 = .ok (.if_icmp .ne 13, 3) := by decide +kernel
theorem dX8_readItem_26 : decode cX8_readItem 26 = .ok (.aload_n 0, 1) := by decide +kernel
theorem dX8_readItem_27 : decode cX8_readItem 27 = .ok (.getfield 26, 3) := by decide +kernel
theorem dX8_readItem_30 : decode cX8_readItem 30 = .ok (.iconst 1, 1) := by decide +kernel
theorem dX8_readItem_31 : decode cX8_readItem 31 = .ok (.iaload, 1) := by decide +kernel
theorem dX8_readItem_32 : decode cX8_readItem 32 = .ok (.iconst 5, 1) := by decide +kernel
theorem dX8_readItem_33 : decode cX8_readItem 33 = .ok (.if_icmp .lt 13, 3) := by decide +kernel
theorem dX8_readItem_36 : decode cX8_readItem 36 = .ok (.iload_n 1, 1) := by decide +kernel
theorem dX8_readItem_37 : decode cX8_readItem 37 = .ok (.iconst 2, 1) := by decide +kernel
theorem dX8_readItem_38 : decode cX8_readItem 38 = .ok (.if_icmp .eq 8, 3) := by decide +kernel
theorem dX8_readItem_41 : decode cX8_readItem 41 = .ok (.iload_n 1, 1) := by decide +kernel
theorem dX8_readItem_42 : decode cX8_readItem 42 = .ok (.iconst 3, 1) := by decide +kernel
theorem dX8_readItem_43 : decode cX8_readItem 43 = .ok (.if_icmp .ne 7, 3) := by decide +kernel
theorem dX8_readItem_46 : decode cX8_readItem 46 = .ok (.iconst 1, 1) := by decide +kernel
theorem dX8_readItem_47 : decode cX8_readItem 47 = .ok (.goto 4, 3) := by decide +kernel
theorem dX8_readItem_50 : decode cX8_readItem 50 = .ok (.iconst 0, 1) := by decide +kernel
theorem dX8_readItem_51 : decode cX8_readItem 51 = .ok (.invokevirtual 102, 3) := by decide +kernel
theorem dX8_readItem_54 : decode cX8_readItem 54 = .ok (.pop, 1) := by decide +kernel
theorem dX8_readItem_55 : decode cX8_readItem 55 = .ok (.aload_n 0, 1) := by decide +kernel
theorem dX8_readItem_56 : decode cX8_readItem 56 = .ok (.getfield 96, 3) := by decide +kernel
theorem dX8_readItem_59 : decode cX8_readItem 59 = .ok (.bipush (-9), 2) := by decide +kernel
theorem dX8_readItem_61 : decode cX8_readItem 61 = .ok (.if_icmp .eq 4, 3) := by decide +kernel
theorem dX8_readItem_64 : decode cX8_readItem 64 = .ok (.return_, 1) := by decide +kernel
theorem dX8_readItem_65 : decode cX8_readItem 65 = .ok (.iload_n 1, 1) := by decide +kernel
theorem dX8_readItem_66 : decode cX8_readItem 66 = .ok (.ifCond .ne 64, 3) := by decide +kernel
theorem dX8_readItem_69 : decode cX8_readItem 69 = .ok (.bipush 6, 2) := by decide +kernel
theorem dX8_readItem_71 : decode cX8_readItem 71 = .ok (.aload_n 0, 1) := by decide +kernel
theorem dX8_readItem_72 : decode cX8_readItem 72 = .ok (.getfield 13, 3) := by decide +kernel
theorem dX8_readItem_75 : decode cX8_readItem 75 = .ok (.iconst 1, 1) := by decide +kernel
theorem dX8_readItem_76 : decode cX8_readItem 76 = .ok (.iaload, 1) := by decide +kernel
theorem dX8_readItem_77 : decode cX8_readItem 77 = .ok (.iadd, 1) := by decide +kernel
theorem dX8_readItem_78 : decode cX8_readItem 78 = .ok (.istore_n 2, 1) := by decide +kernel
theorem dX8_readItem_79 : decode cX8_readItem 79 = .ok (.aload_n 0, 1) := by decide +kernel
theorem dX8_readItem_80 : decode cX8_readItem 80 = .ok (.getfield 17, 3) := by decide +kernel
theorem dX8_readItem_83 : decode cX8_readItem 83 = .ok (.iload_n 2, 1) := by decide +kernel
theorem dX8_readItem_84 : decode cX8_readItem 84 = .ok (.aload_n 0, 1) := by decide +kernel
theorem dX8_readItem_85 : decode cX8_readItem 85 = .ok (.iconst 1, 1) := by decide +kernel
theorem dX8_readItem_86 : decode cX8_readItem 86 = .ok (.bipush 99, 2) := by decide +kernel
theorem dX8_readItem_88 : decode cX8_readItem 88 = .ok (.invokevirtual 106, 3) := by decide +kernel
theorem dX8_readItem_91 : decode cX8_readItem 91 = .ok (.iastore, 1) := by decide +kernel
theorem dX8_readItem_92 : decode cX8_readItem 92 = .ok (.aload_n 0, 1) := by decide +kernel
theorem dX8_readItem_93 : decode cX8_readItem 93 = .ok (.getfield 20, 3) := by decide +kernel
theorem dX8_readItem_96 : decode cX8_readItem 96 = .ok (.iload_n 2, 1) := by decide +kernel
theorem dX8_readItem_97 : decode cX8_readItem 97 = .ok (.aload_n 0, 1) := by decide +kernel
theorem dX8_readItem_98 : decode cX8_readItem 98 = .ok (.iconst 1, 1) := by decide +kernel
theorem dX8_readItem_99 : decode cX8_readItem 99 = .ok (.bipush 9, 2) := by decide +kernel
theorem dX8_readItem_101 : decode cX8_readItem 101 = .ok (.invokevirtual 106, 3) := by decide +kernel
theorem dX8_readItem_104 : decode cX8_readItem 104 = .ok (.iastore, 1) := by decide +kernel
theorem dX8_readItem_105 : decode cX8_readItem 105 = .ok (.aload_n 0, 1) := by decide +kernel
theorem dX8_readItem_106 : decode cX8_readItem 106 = .ok (.getfield 23, 3) := by decide +kernel
theorem dX8_readItem_109 : decode cX8_readItem 109 = .ok (.iload_n 2, 1) := by decide +kernel
theorem dX8_readItem_110 : decode cX8_readItem 110 = .ok (.aload_n 0, 1) := by decide +kernel
theorem dX8_readItem_111 : decode cX8_readItem 111 = .ok (.iconst 1, 1) := by decide +kernel
theorem dX8_readItem_112 : decode cX8_readItem 112 = .ok (.iconst 3, 1) := by decide +kernel
theorem dX8_readItem_113 : decode cX8_readItem 113 = .ok (.invokevirtual 106, 3) := by decide +kernel
theorem dX8_readItem_116 : decode cX8_readItem 116 = .ok (.iastore, 1) := by decide +kernel
theorem dX8_readItem_117 : decode cX8_readItem 117 = .ok (.aload_n 0, 1) := by decide +kernel
theorem dX8_readItem_118 : decode cX8_readItem 118 = .ok (.getfield 13, 3) := by decide +kernel
theorem dX8_readItem_121 : decode cX8_readItem 121 = .ok (.iconst 1, 1) := by decide +kernel
theorem dX8_readItem_122 : decode cX8_readItem 122 = .ok (.dup2, 1) := by decide +kernel
theorem dX8_readItem_123 : decode cX8_readItem 123 = .ok (.iaload, 1) := by decide +kernel
theorem dX8_readItem_124 : decode cX8_readItem 124 = .ok (.iconst 1, 1) := by decide +kernel
theorem dX8_readItem_125 : decode cX8_readItem 125 = .ok (.iadd, 1) := by decide +kernel
theorem dX8_readItem_126 : decode cX8_readItem 126 = .ok (.iastore, 1) := by decide +kernel
theorem dX8_readItem_127 : decode cX8_readItem 127 = .ok (.goto 147, 3) := by decide +kernel
theorem dX8_readItem_130 : decode cX8_readItem 130 = .ok (.iload_n 1, 1) := by decide +kernel
theorem dX8_readItem_131 : decode cX8_readItem 131 = .ok (.iconst 1, 1) := by decide +kernel
theorem dX8_readItem_132 : decode cX8_readItem 132 = .ok (.if_icmp .ne 51, 3) := by decide +kernel
theorem dX8_readItem_135 : decode cX8_readItem 135 = .ok (.iconst 5, 1) := by decide +kernel
theorem dX8_readItem_136 : decode cX8_readItem 136 = .ok (.aload_n 0, 1) := by decide +kernel
theorem dX8_readItem_137 : decode cX8_readItem 137 = .ok (.getfield 26, 3) := by decide +kernel
theorem dX8_readItem_140 : decode cX8_readItem 140 = .ok (.iconst 1, 1) := by decide +kernel
theorem dX8_readItem_141 : decode cX8_readItem 141 = .ok (.iaload, 1) := by decide +kernel
theorem dX8_readItem_142 : decode cX8_readItem 142 = .ok (.iadd, 1) := by decide +kernel
theorem dX8_readItem_143 : decode cX8_readItem 143 = .ok (.istore_n 2, 1) := by decide +kernel
theorem dX8_readItem_144 : decode cX8_readItem 144 = .ok (.aload_n 0, 1) := by decide +kernel
theorem dX8_readItem_145 : decode cX8_readItem 145 = .ok (.getfield 29, 3) := by decide +kernel
theorem dX8_readItem_148 : decode cX8_readItem 148 = .ok (.iload_n 2, 1) := by decide +kernel
theorem dX8_readItem_149 : decode cX8_readItem 149 = .ok (.aload_n 0, 1) := by decide +kernel
theorem dX8_readItem_150 : decode cX8_readItem 150 = .ok (.iconst 1, 1) := by decide +kernel
theorem dX8_readItem_151 : decode cX8_readItem 151 = .ok (.bipush 9, 2) := by decide +kernel
theorem dX8_readItem_153 : decode cX8_readItem 153 = .ok (.invokevirtual 106, 3) := by decide +kernel
theorem dX8_readItem_156 : decode cX8_readItem 156 = .ok (.iastore, 1) := by decide +kernel
theorem dX8_readItem_157 : decode cX8_readItem 157 = .ok (.aload_n 0, 1) := by decide +kernel
theorem dX8_readItem_158 : decode cX8_readItem 158 = .ok (.getfield 32, 3) := by decide +kernel
theorem dX8_readItem_161 : decode cX8_readItem 161 = .ok (.iload_n 2, 1) := by decide +kernel
theorem dX8_readItem_162 : decode cX8_readItem 162 = .ok (.aload_n 0, 1) := by decide +kernel
theorem dX8_readItem_163 : decode cX8_readItem 163 = .ok (.iconst 0, 1) := by decide +kernel
theorem dX8_readItem_164 : decode cX8_readItem 164 = .ok (.bipush 9, 2) := by decide +kernel
theorem dX8_readItem_166 : decode cX8_readItem 166 = .ok (.invokevirtual 106, 3) := by decide +kernel
theorem dX8_readItem_169 : decode cX8_readItem 169 = .ok (.iastore, 1) := by decide +kernel
theorem dX8_readItem_170 : decode cX8_readItem 170 = .ok (.aload_n 0, 1) := by decide +kernel
theorem dX8_readItem_171 : decode cX8_readItem 171 = .ok (.getfield 26, 3) := by decide +kernel
theorem dX8_readItem_174 : decode cX8_readItem 174 = .ok (.iconst 1, 1) := by decide +kernel
theorem dX8_readItem_175 : decode cX8_readItem 175 = .ok (.dup2, 1) := by decide +kernel
theorem dX8_readItem_176 : decode cX8_readItem 176 = .ok (.iaload, 1) := by decide +kernel
theorem dX8_readItem_177 : decode cX8_readItem 177 = .ok (.iconst 1, 1) := by decide +kernel
theorem dX8_readItem_178 : decode cX8_readItem 178 = .ok (.iadd, 1) := by decide +kernel
theorem dX8_readItem_179 : decode cX8_readItem 179 = .ok (.iastore, 1) := by decide +kernel
theorem dX8_readItem_180 : decode cX8_readItem 180 = .ok (.goto 94, 3) := by decide +kernel
theorem dX8_readItem_183 : decode cX8_readItem 183 = .ok (.aload_n 0, 1) := by decide +kernel
theorem dX8_readItem_184 : decode cX8_readItem 184 = .ok (.iload_n 1, 1) := by decide +kernel
theorem dX8_readItem_185 : decode cX8_readItem 185 = .ok (.iconst 2, 1) := by decide +kernel
theorem dX8_readItem_186 : decode cX8_readItem 186 = .ok (.if_icmp .ne 7, 3) := by decide +kernel
theorem dX8_readItem_189 : decode cX8_readItem 189 = .ok (.iconst 0, 1) := by decide +kernel
theorem dX8_readItem_190 : decode cX8_readItem 190 = .ok (.goto 4, 3) := by decide +kernel
theorem dX8_readItem_193 : decode cX8_readItem 193 = .ok (.iconst 1, 1) := by decide +kernel
theorem dX8_readItem_194 : decode cX8_readItem 194 = .ok (.bipush 9, 2) := by decide +kernel
theorem dX8_readItem_196 : decode cX8_readItem 196 = .ok (.invokevirtual 106, 3) := by decide +kernel
theorem dX8_readItem_199 : decode cX8_readItem 199 = .ok (.istore_n 2, 1) := by decide +kernel
theorem dX8_readItem_200 : decode cX8_readItem 200 = .ok (.aload_n 0, 1) := by decide +kernel
theorem dX8_readItem_201 : decode cX8_readItem 201 = .ok (.iconst 1, 1) := by decide +kernel
theorem dX8_readItem_202 : decode cX8_readItem 202 = .ok (.bipush 24, 2) := by decide +kernel
theorem dX8_readItem_204 : decode cX8_readItem 204 = .ok (.aload_n 0, 1) := by decide +kernel
theorem dX8_readItem_205 : decode cX8_readItem 205 = .ok (.getfield 35, 3) := by decide +kernel
theorem dX8_readItem_208 : decode cX8_readItem 208 = .ok (.iconst 1, 1) := by decide +kernel
theorem dX8_readItem_209 : decode cX8_readItem 209 = .ok (.iaload, 1) := by decide +kernel
theorem dX8_readItem_210 : decode cX8_readItem 210 = .ok (.isub, 1) := by decide +kernel
theorem dX8_readItem_211 : decode cX8_readItem 211 = .ok (.invokevirtual 106, 3) := by decide +kernel
theorem dX8_readItem_214 : decode cX8_readItem 214 = .ok (.istore_n 3, 1) := by decide +kernel
theorem dX8_readItem_215 : decode cX8_readItem 215 = .ok (.iconst 0, 1) := by decide +kernel
theorem dX8_readItem_216 : decode cX8_readItem 216 = .ok (.istore 4, 2) := by decide +kernel
theorem dX8_readItem_218 : decode cX8_readItem 218 = .ok (.iload 4, 2) := by decide +kernel
theorem dX8_readItem_220 : decode cX8_readItem 220 = .ok (.iload_n 3, 1) := by decide +kernel
theorem dX8_readItem_221 : decode cX8_readItem 221 = .ok (.if_icmp .ge 53, 3) := by decide +kernel
theorem dX8_readItem_224 : decode cX8_readItem 224 = .ok (.aload_n 0, 1) := by decide +kernel
theorem dX8_readItem_225 : decode cX8_readItem 225 = .ok (.getfield 96, 3) := by decide +kernel
theorem dX8_readItem_228 : decode cX8_readItem 228 = .ok (.bipush (-9), 2) := by decide +kernel
theorem dX8_readItem_230 : decode cX8_readItem 230 = .ok (.if_icmp .ne 44, 3) := by decide +kernel
theorem dX8_readItem_233 : decode cX8_readItem 233 = .ok (.aload_n 0, 1) := by decide +kernel
theorem dX8_readItem_234 : decode cX8_readItem 234 = .ok (.getfield 38, 3) := by decide +kernel
theorem dX8_readItem_237 : decode cX8_readItem 237 = .ok (.bipush 24, 2) := by decide +kernel
theorem dX8_readItem_239 : decode cX8_readItem 239 = .ok (.aload_n 0, 1) := by decide +kernel
theorem dX8_readItem_240 : decode cX8_readItem 240 = .ok (.getfield 35, 3) := by decide +kernel
theorem dX8_readItem_243 : decode cX8_readItem 243 = .ok (.iconst 1, 1) := by decide +kernel
theorem dX8_readItem_244 : decode cX8_readItem 244 = .ok (.iaload, 1) := by decide +kernel
theorem dX8_readItem_245 : decode cX8_readItem 245 = .ok (.iadd, 1) := by decide +kernel
theorem dX8_readItem_246 : decode cX8_readItem 246 = .ok (.iload_n 1, 1) := by decide +kernel
theorem dX8_readItem_247 : decode cX8_readItem 247 = .ok (.iconst 2, 1) := by decide +kernel
theorem dX8_readItem_248 : decode cX8_readItem 248 = .ok (.if_icmp .ne 7, 3) := by decide +kernel
theorem dX8_readItem_251 : decode cX8_readItem 251 = .ok (.iload_n 2, 1) := by decide +kernel
theorem dX8_readItem_252 : decode cX8_readItem 252 = .ok (.goto 5, 3) := by decide +kernel
theorem dX8_readItem_255 : decode cX8_readItem 255 = .ok (.iload_n 2, 1) := by decide +kernel
theorem dX8_readItem_256 : decode cX8_readItem 256 = .ok (.ineg, 1) := by decide +kernel
theorem dX8_readItem_257 : decode cX8_readItem 257 = .ok (.iastore, 1) := by decide +kernel
theorem dX8_readItem_258 : decode cX8_readItem 258 = .ok (.aload_n 0, 1) := by decide +kernel
theorem dX8_readItem_259 : decode cX8_readItem 259 = .ok (.getfield 35, 3) := by decide +kernel
theorem dX8_readItem_262 : decode cX8_readItem 262 = .ok (.iconst 1, 1) := by decide +kernel
theorem dX8_readItem_263 : decode cX8_readItem 263 = .ok (.dup2, 1) := by decide +kernel
theorem dX8_readItem_264 : decode cX8_readItem 264 = .ok (.iaload, 1) := by decide +kernel
theorem dX8_readItem_265 : decode cX8_readItem 265 = .ok (.iconst 1, 1) := by decide +kernel
theorem dX8_readItem_266 : decode cX8_readItem 266 = .ok (.iadd, 1) := by decide +kernel
theorem dX8_readItem_267 : decode cX8_readItem 267 = .ok (.iastore, 1) := by decide +kernel
theorem dX8_readItem_268 : decode cX8_readItem 268 = .ok (.iinc 4 1, 3) := by decide +kernel
theorem dX8_readItem_271 : decode cX8_readItem 271 = .ok (.goto (-53), 3) := by decide +kernel
theorem dX8_readItem_274 : decode cX8_readItem 274 = .ok (.aload_n 0, 1) := by decide +kernel
theorem dX8_readItem_275 : decode cX8_readItem 275 = .ok (.aload_n 0, 1) := by decide +kernel
theorem dX8_readItem_276 : decode cX8_readItem 276 = .ok (.getfield 89, 3) := by decide +kernel
theorem dX8_readItem_279 : decode cX8_readItem 279 = .ok (.bipush 6, 2) := by decide +kernel
theorem dX8_readItem_281 : decode cX8_readItem 281 = .ok (.if_icmp .ne 7, 3) := by decide +kernel
theorem dX8_readItem_284 : decode cX8_readItem 284 = .ok (.iconst 1, 1) := by decide +kernel
theorem dX8_readItem_285 : decode cX8_readItem 285 = .ok (.goto 4, 3) := by decide +kernel
theorem dX8_readItem_288 : decode cX8_readItem 288 = .ok (.iconst 0, 1) := by decide +kernel
theorem dX8_readItem_289 : decode cX8_readItem 289 = .ok (.invokevirtual 102, 3) := by decide +kernel
theorem dX8_readItem_292 : decode cX8_readItem 292 = .ok (.pop, 1) := by decide +kernel
theorem dX8_readItem_293 : decode cX8_readItem 293 = .ok (.return_, 1) := by decide +kernel
set_option maxRecDepth 20000 in
theorem ggX8_day_X8_next : GoodIn wsX8_day wsX8_next := goodIn_r _ [19, 1, 20, 21, 6, 22, 23, 24, 18, 25, 14, 26, 27, 28, 29, 30, 31, 32, 50, 51, 52, 53, 54, 55, 56, 57, 58, 59, 60, 61, 62, 63, 64, 65, 66, 67, 68, 69, 70, 71, 72, 73, 74, 75] (by decide +kernel) (by decide +kernel)
set_option maxRecDepth 20000 in
theorem gX8_day_X8_next : GoodIn wsX8_day (wsV RX8 99 RX8 yX8_next wsX8_next) := goodIn_app (goodIn_of _ (by decide +kernel)) ggX8_day_X8_next
set_option maxRecDepth 20000 in
theorem ggX8_day_X8_readItem : GoodIn wsX8_day wsX8_readItem := goodIn_r _ [36, 6, 3, 4, 2, 7, 8, 9, 10, 11, 5, 12, 37, 38, 39, 18, 40, 21, 20, 15, 16, 17, 19, 1, 22, 23, 24, 25, 14, 26, 27, 28, 29, 30, 31, 32, 41, 42, 43, 44, 50, 51, 52, 53, 54, 55, 56, 57, 58, 59, 60, 61, 62, 63, 64, 65, 66, 67, 68, 69, 70, 71, 72, 73, 74, 75] (by decide +kernel) (by decide +kernel)
set_option maxRecDepth 20000 in
theorem gX8_day_X8_readItem : GoodIn wsX8_day (wsV RX8 110 RX8 yX8_readItem wsX8_readItem) := goodIn_app (goodIn_of _ (by decide +kernel)) ggX8_day_X8_readItem
set_option maxRecDepth 20000 in
theorem ggX8_day_X8_anew : GoodIn wsX8_day wsX8_anew := goodIn_r _ [48, 49, 3, 7, 50, 51, 52, 53, 54, 55, 56, 57, 58, 59, 60, 61, 62, 63, 64, 65, 66, 67, 68, 69, 70, 71, 72, 73, 74, 75] (by decide +kernel) (by decide +kernel)
set_option maxRecDepth 20000 in
theorem gX8_day_X8_anew : GoodIn wsX8_day (wsV RX8 113 RX8 yX8_anew wsX8_anew) := goodIn_app (goodIn_of _ (by decide +kernel)) ggX8_day_X8_anew
theorem dX8_day_0 : decode cX8_day 0 = .ok (.aload_n 0, 1) := by decide +kernel
theorem dX8_day_1 : decode cX8_day 1 = .ok (.iconst 0, 1) := by decide +kernel
theorem dX8_day_2 : decode cX8_day 2 = .ok (.putfield 76, 3) := by decide +kernel
theorem dX8_day_5 : decode cX8_day 5 = .ok (.aload_n 0, 1) := by decide +kernel
theorem dX8_day_6 : decode cX8_day 6 = .ok (.bipush (-9), 2) := by decide +kernel
theorem dX8_day_8 : decode cX8_day 8 = .ok (.putfield 96, 3) := by decide +kernel
theorem dX8_day_11 : decode cX8_day 11 = .ok (.aload_n 0, 1) := by decide +kernel
theorem dX8_day_12 : decode cX8_day 12 = .ok (.getfield 13, 3) := by decide +kernel
theorem dX8_day_15 : decode cX8_day 15 = .ok (.iconst 1, 1) := by decide +kernel
theorem dX8_day_16 : decode cX8_day 16 = .ok (.iconst 0, 1) := by decide +kernel
theorem dX8_day_17 : decode cX8_day 17 = .ok (.iastore, 1) := by decide +kernel
theorem dX8_day_18 : decode cX8_day 18 = .ok (.aload_n 0, 1) := by decide +kernel
theorem dX8_day_19 : decode cX8_day 19 = .ok (.getfield 26, 3) := by decide +kernel
theorem dX8_day_22 : decode cX8_day 22 = .ok (.iconst 1, 1) := by decide +kernel
theorem dX8_day_23 : decode cX8_day 23 = .ok (.iconst 0, 1) := by decide +kernel
theorem dX8_day_24 : decode cX8_day 24 = .ok (.iastore, 1) := by decide +kernel
theorem dX8_day_25 : decode cX8_day 25 = .ok (.aload_n 0, 1) := by decide +kernel
theorem dX8_day_26 : decode cX8_day 26 = .ok (.getfield 35, 3) := by decide +kernel
theorem dX8_day_29 : decode cX8_day 29 = .ok (.iconst 1, 1) := by decide +kernel
theorem dX8_day_30 : decode cX8_day 30 = .ok (.iconst 0, 1) := by decide +kernel
theorem dX8_day_31 : decode cX8_day 31 = .ok (.iastore, 1) := by decide +kernel
theorem dX8_day_32 : decode cX8_day 32 = .ok (.iconst 0, 1) := by decide +kernel
theorem dX8_day_33 : decode cX8_day 33 = .ok (.istore_n 1, 1) := by decide +kernel
theorem dX8_day_34 : decode cX8_day 34 = .ok (.aload_n 0, 1) := by decide +kernel
theorem dX8_day_35 : decode cX8_day 35 = .ok (.invokevirtual 99, 3) := by decide +kernel
theorem dX8_day_38 : decode cX8_day 38 = .ok (.aload_n 0, 1) := by decide +kernel
theorem dX8_day_39 : decode cX8_day 39 = .ok (.getfield 96, 3) := by decide +kernel
theorem dX8_day_42 : decode cX8_day 42 = .ok (.bipush (-9), 2) := by decide +kernel
theorem dX8_day_44 : decode cX8_day 44 = .ok (.if_icmp .ne 21, 3) := by decide +kernel
theorem dX8_day_47 : decode cX8_day 47 = .ok (.aload_n 0, 1) := by decide +kernel
theorem dX8_day_48 : decode cX8_day 48 = .ok (.getfield 89, 3) := by decide +kernel
theorem dX8_day_51 : decode cX8_day 51 = .ok (.iconst 4, 1) := by decide +kernel
theorem dX8_day_52 : decode cX8_day 52 = .ok (.if_icmp .eq 13, 3) := by decide +kernel
theorem dX8_day_55 : decode cX8_day 55 = .ok (.aload_n 0, 1) := by decide +kernel
theorem dX8_day_56 : decode cX8_day 56 = .ok (.invokevirtual 110, 3) := by decide +kernel
theorem dX8_day_59 : decode cX8_day 59 = .ok (.iinc 1 1, 3) := by decide +kernel
theorem dX8_day_62 : decode cX8_day 62 = .ok (.goto (-24), 3) := by decide +kernel
theorem dX8_day_65 : decode cX8_day 65 = .ok (.aload_n 0, 1) := by decide +kernel
theorem dX8_day_66 : decode cX8_day 66 = .ok (.getfield 96, 3) := by decide +kernel
theorem dX8_day_69 : decode cX8_day 69 = .ok (.bipush (-9), 2) := by decide +kernel
theorem dX8_day_71 : decode cX8_day 71 = .ok (.if_icmp .eq 11, 3) := by decide +kernel
theorem dX8_day_74 : decode cX8_day 74 = .ok (.bipush (-10), 2) := by decide +kernel
theorem dX8_day_76 : decode cX8_day 76 = .ok (.aload_n 0, 1) := by decide +kernel
theorem dX8_day_77 : decode cX8_day 77 = .ok (.getfield 96, 3) := by decide +kernel
theorem dX8_day_80 : decode cX8_day 80 = .ok (.isub, 1) := by decide +kernel
theorem dX8_day_81 : decode cX8_day 81 = .ok (.ireturn, 1) := by decide +kernel
theorem dX8_day_82 : decode cX8_day 82 = .ok (.aload_n 0, 1) := by decide +kernel
theorem dX8_day_83 : decode cX8_day 83 = .ok (.getfield 13, 3) := by decide +kernel
theorem dX8_day_86 : decode cX8_day 86 = .ok (.iconst 0, 1) := by decide +kernel
theorem dX8_day_87 : decode cX8_day 87 = .ok (.aload_n 0, 1) := by decide +kernel
theorem dX8_day_88 : decode cX8_day 88 = .ok (.getfield 13, 3) := by decide +kernel
theorem dX8_day_91 : decode cX8_day 91 = .ok (.iconst 1, 1) := by decide +kernel
theorem dX8_day_92 : decode cX8_day 92 = .ok (.iaload, 1) := by decide +kernel
theorem dX8_day_93 : decode cX8_day 93 = .ok (.iastore, 1) := by decide +kernel
theorem dX8_day_94 : decode cX8_day 94 = .ok (.aload_n 0, 1) := by decide +kernel
theorem dX8_day_95 : decode cX8_day 95 = .ok (.getfield 26, 3) := by decide +kernel
theorem dX8_day_98 : decode cX8_day 98 = .ok (.iconst 0, 1) := by decide +kernel
theorem dX8_day_99 : decode cX8_day 99 = .ok (.aload_n 0, 1) := by decide +kernel
theorem dX8_day_100 : decode cX8_day 100 = .ok (.getfield 26, 3) := by decide +kernel
theorem dX8_day_103 : decode cX8_day 103 = .ok (.iconst 1, 1) := by decide +kernel
theorem dX8_day_104 : decode cX8_day 104 = .ok (.iaload, 1) := by decide +kernel
theorem dX8_day_105 : decode cX8_day 105 = .ok (.iastore, 1) := by decide +kernel
theorem dX8_day_106 : decode cX8_day 106 = .ok (.aload_n 0, 1) := by decide +kernel
theorem dX8_day_107 : decode cX8_day 107 = .ok (.getfield 35, 3) := by decide +kernel
theorem dX8_day_110 : decode cX8_day 110 = .ok (.iconst 0, 1) := by decide +kernel
theorem dX8_day_111 : decode cX8_day 111 = .ok (.aload_n 0, 1) := by decide +kernel
theorem dX8_day_112 : decode cX8_day 112 = .ok (.getfield 35, 3) := by decide +kernel
theorem dX8_day_115 : decode cX8_day 115 = .ok (.iconst 1, 1) := by decide +kernel
theorem dX8_day_116 : decode cX8_day 116 = .ok (.iaload, 1) := by decide +kernel
theorem dX8_day_117 : decode cX8_day 117 = .ok (.iastore, 1) := by decide +kernel
theorem dX8_day_118 : decode cX8_day 118 = .ok (.iconst 0, 1) := by decide +kernel
theorem dX8_day_119 : decode cX8_day 119 = .ok (.istore_n 2, 1) := by decide +kernel
theorem dX8_day_120 : decode cX8_day 120 = .ok (.iload_n 2, 1) := by decide +kernel
theorem dX8_day_121 : decode cX8_day 121 = .ok (.bipush 6, 2) := by decide +kernel
theorem dX8_day_123 : decode cX8_day 123 = .ok (.if_icmp .ge 54, 3) := by decide +kernel
theorem dX8_day_126 : decode cX8_day 126 = .ok (.aload_n 0, 1) := by decide +kernel
theorem dX8_day_127 : decode cX8_day 127 = .ok (.getfield 17, 3) := by decide +kernel
theorem dX8_day_130 : decode cX8_day 130 = .ok (.iload_n 2, 1) := by decide +kernel
theorem dX8_day_131 : decode cX8_day 131 = .ok (.aload_n 0, 1) := by decide +kernel
theorem dX8_day_132 : decode cX8_day 132 = .ok (.getfield 17, 3) := by decide +kernel
theorem dX8_day_135 : decode cX8_day 135 = .ok (.bipush 6, 2) := by decide +kernel
theorem dX8_day_137 : decode cX8_day 137 = .ok (.iload_n 2, 1) := by decide +kernel
theorem dX8_day_138 : decode cX8_day 138 = .ok (.iadd, 1) := by decide +kernel
theorem dX8_day_139 : decode cX8_day 139 = .ok (.iaload, 1) := by decide +kernel
theorem dX8_day_140 : decode cX8_day 140 = .ok (.iastore, 1) := by decide +kernel
theorem dX8_day_141 : decode cX8_day 141 = .ok (.aload_n 0, 1) := by decide +kernel
theorem dX8_day_142 : decode cX8_day 142 = .ok (.getfield 20, 3) := by decide +kernel
theorem dX8_day_145 : decode cX8_day 145 = .ok (.iload_n 2, 1) := by decide +kernel
theorem dX8_day_146 : decode cX8_day 146 = .ok (.aload_n 0, 1) := by decide +kernel
theorem dX8_day_147 : decode cX8_day 147 = .ok (.getfield 20, 3) := by decide +kernel
theorem dX8_day_150 : decode cX8_day 150 = .ok (.bipush 6, 2) := by decide +kernel
theorem dX8_day_152 : decode cX8_day 152 = .ok (.iload_n 2, 1) := by decide +kernel
theorem dX8_day_153 : decode cX8_day 153 = .ok (.iadd, 1) := by decide +kernel
theorem dX8_day_154 : decode cX8_day 154 = .ok (.iaload, 1) := by decide +kernel
theorem dX8_day_155 : decode cX8_day 155 = .ok (.iastore, 1) := by decide +kernel
theorem dX8_day_156 : decode cX8_day 156 = .ok (.aload_n 0, 1) := by decide +kernel
theorem dX8_day_157 : decode cX8_day 157 = .ok (.getfield 23, 3) := by decide +kernel
theorem dX8_day_160 : decode cX8_day 160 = .ok (.iload_n 2, 1) := by decide +kernel
theorem dX8_day_161 : decode cX8_day 161 = .ok (.aload_n 0, 1) := by decide +kernel
theorem dX8_day_162 : decode cX8_day 162 = .ok (.getfield 23, 3) := by decide +kernel
theorem dX8_day_165 : decode cX8_day 165 = .ok (.bipush 6, 2) := by decide +kernel
theorem dX8_day_167 : decode cX8_day 167 = .ok (.iload_n 2, 1) := by decide +kernel
theorem dX8_day_168 : decode cX8_day 168 = .ok (.iadd, 1) := by decide +kernel
theorem dX8_day_169 : decode cX8_day 169 = .ok (.iaload, 1) := by decide +kernel
theorem dX8_day_170 : decode cX8_day 170 = .ok (.iastore, 1) := by decide +kernel
theorem dX8_day_171 : decode cX8_day 171 = .ok (.iinc 2 1, 3) := by decide +kernel
theorem dX8_day_174 : decode cX8_day 174 = .ok (.goto (-54), 3) := by decide +kernel
theorem dX8_day_177 : decode cX8_day 177 = .ok (.iconst 0, 1) := by decide +kernel
theorem dX8_day_178 : decode cX8_day 178 = .ok (.istore_n 2, 1) := by decide +kernel
theorem dX8_day_179 : decode cX8_day 179 = .ok (.iload_n 2, 1) := by decide +kernel
theorem dX8_day_180 : decode cX8_day 180 = .ok (.iconst 5, 1) := by decide +kernel
theorem dX8_day_181 : decode cX8_day 181 = .ok (.if_icmp .ge 37, 3) := by decide +kernel
theorem dX8_day_184 : decode cX8_day 184 = .ok (.aload_n 0, 1) := by decide +kernel
theorem dX8_day_185 : decode cX8_day 185 = .ok (.getfield 29, 3) := by decide +kernel
theorem dX8_day_188 : decode cX8_day 188 = .ok (.iload_n 2, 1) := by decide +kernel
theorem dX8_day_189 : decode cX8_day 189 = .ok (.aload_n 0, 1) := by decide +kernel
theorem dX8_day_190 : decode cX8_day 190 = .ok (.getfield 29, 3) := by decide +kernel
theorem dX8_day_193 : decode cX8_day 193 = .ok (.iconst 5, 1) := by decide +kernel
theorem dX8_day_194 : decode cX8_day 194 = .ok (.iload_n 2, 1) := by decide +kernel
theorem dX8_day_195 : decode cX8_day 195 = .ok (.iadd, 1) := by decide +kernel
theorem dX8_day_196 : decode cX8_day 196 = .ok (.iaload, 1) := by decide +kernel
theorem dX8_day_197 : decode cX8_day 197 = .ok (.iastore, 1) := by decide +kernel
theorem dX8_day_198 : decode cX8_day 198 = .ok (.aload_n 0, 1) := by decide +kernel
theorem dX8_day_199 : decode cX8_day 199 = .ok (.getfield 32, 3) := by decide +kernel
theorem dX8_day_202 : decode cX8_day 202 = .ok (.iload_n 2, 1) := by decide +kernel
theorem dX8_day_203 : decode cX8_day 203 = .ok (.aload_n 0, 1) := by decide +kernel
theorem dX8_day_204 : decode cX8_day 204 = .ok (.getfield 32, 3) := by decide +kernel
theorem dX8_day_207 : decode cX8_day 207 = .ok (.iconst 5, 1) := by decide +kernel
theorem dX8_day_208 : decode cX8_day 208 = .ok (.iload_n 2, 1) := by decide +kernel
theorem dX8_day_209 : decode cX8_day 209 = .ok (.iadd, 1) := by decide +kernel
theorem dX8_day_210 : decode cX8_day 210 = .ok (.iaload, 1) := by decide +kernel
theorem dX8_day_211 : decode cX8_day 211 = .ok (.iastore, 1) := by decide +kernel
theorem dX8_day_212 : decode cX8_day 212 = .ok (.iinc 2 1, 3) := by decide +kernel
theorem dX8_day_215 : decode cX8_day 215 = .ok (.goto (-36), 3) := by decide +kernel
theorem dX8_day_218 : decode cX8_day 218 = .ok (.iconst 0, 1) := by decide +kernel
theorem dX8_day_219 : decode cX8_day 219 = .ok (.istore_n 2, 1) := by decide +kernel
theorem dX8_day_220 : decode cX8_day 220 = .ok (.iload_n 2, 1) := by decide +kernel
theorem dX8_day_221 : decode cX8_day 221 = .ok (.bipush 24, 2) := by decide +kernel
theorem dX8_day_223 : decode cX8_day 223 = .ok (.if_icmp .ge 24, 3) := by decide +kernel
theorem dX8_day_226 : decode cX8_day 226 = .ok (.aload_n 0, 1) := by decide +kernel
theorem dX8_day_227 : decode cX8_day 227 = .ok (.getfield 38, 3) := by decide +kernel
theorem dX8_day_230 : decode cX8_day 230 = .ok (.iload_n 2, 1) := by decide +kernel
theorem dX8_day_231 : decode cX8_day 231 = .ok (.aload_n 0, 1) := by decide +kernel
theorem dX8_day_232 : decode cX8_day 232 = .ok (.getfield 38, 3) := by decide +kernel
theorem dX8_day_235 : decode cX8_day 235 = .ok (.bipush 24, 2) := by decide +kernel
theorem dX8_day_237 : decode cX8_day 237 = .ok (.iload_n 2, 1) := by decide +kernel
theorem dX8_day_238 : decode cX8_day 238 = .ok (.iadd, 1) := by decide +kernel
theorem dX8_day_239 : decode cX8_day 239 = .ok (.iaload, 1) := by decide +kernel
theorem dX8_day_240 : decode cX8_day 240 = .ok (.iastore, 1) := by decide +kernel
theorem dX8_day_241 : decode cX8_day 241 = .ok (.iinc 2 1, 3) := by decide +kernel
theorem dX8_day_244 : decode cX8_day 244 = .ok (.goto (-24), 3) := by decide +kernel
theorem dX8_day_247 : decode cX8_day 247 = .ok (.aload_n 0, 1) := by decide +kernel
theorem dX8_day_248 : decode cX8_day 248 = .ok (.invokevirtual 113, 3) := by decide +kernel
theorem dX8_day_251 : decode cX8_day 251 = .ok (.pop, 1) := by decide +kernel
theorem dX8_day_252 : decode cX8_day 252 = .ok (.aload_n 0, 1) := by decide +kernel
theorem dX8_day_253 : decode cX8_day 253 = .ok (.getfield 44, 3) := by decide +kernel
theorem dX8_day_256 : decode cX8_day 256 = .ok (.iconst 0, 1) := by decide +kernel
theorem dX8_day_257 : decode cX8_day 257 = .ok (.iconst 0, 1) := by decide +kernel
theorem dX8_day_258 : decode cX8_day 258 = .ok (.bastore, 1) := by decide +kernel
theorem dX8_day_259 : decode cX8_day 259 = .ok (.aload_n 0, 1) := by decide +kernel
theorem dX8_day_260 : decode cX8_day 260 = .ok (.getfield 44, 3) := by decide +kernel
theorem dX8_day_263 : decode cX8_day 263 = .ok (.iconst 1, 1) := by decide +kernel
theorem dX8_day_264 : decode cX8_day 264 = .ok (.iconst 0, 1) := by decide +kernel
theorem dX8_day_265 : decode cX8_day 265 = .ok (.bastore, 1) := by decide +kernel
theorem dX8_day_266 : decode cX8_day 266 = .ok (.aload_n 0, 1) := by decide +kernel
theorem dX8_day_267 : decode cX8_day 267 = .ok (.iconst 0, 1) := by decide +kernel
theorem dX8_day_268 : decode cX8_day 268 = .ok (.putfield 70, 3) := by decide +kernel
theorem dX8_day_271 : decode cX8_day 271 = .ok (.iload_n 1, 1) := by decide +kernel
theorem dX8_day_272 : decode cX8_day 272 = .ok (.ireturn, 1) := by decide +kernel
set_option maxRecDepth 20000 in
theorem ggX8_isPiece_X8_in : GoodIn wsX8_isPiece wsX8_in := goodIn_r _ [5] (by decide +kernel) (by decide +kernel)
set_option maxRecDepth 20000 in
theorem gX8_isPiece_X8_in : GoodIn wsX8_isPiece (va_wsS RX8 66 yX8_in wsX8_in) := goodIn_app (goodIn_of _ (by decide +kernel)) ggX8_isPiece_X8_in
theorem dX8_isPiece_0 : decode cX8_isPiece 0 = .ok (.iload_n 1, 1) := by decide +kernel
theorem dX8_isPiece_1 : decode cX8_isPiece 1 = .ok (.iconst 0, 1) := by decide +kernel
theorem dX8_isPiece_2 : decode cX8_isPiece 2 = .ok (.aload_n 0, 1) := by decide +kernel
theorem dX8_isPiece_3 : decode cX8_isPiece 3 = .ok (.getfield 13, 3) := by decide +kernel
theorem dX8_isPiece_6 : decode cX8_isPiece 6 = .ok (.iconst 0, 1) := by decide +kernel
theorem dX8_isPiece_7 : decode cX8_isPiece 7 = .ok (.iaload, 1) := by decide +kernel
theorem dX8_isPiece_8 : decode cX8_isPiece 8 = .ok (.iconst 1, 1) := by decide +kernel
theorem dX8_isPiece_9 : decode cX8_isPiece 9 = .ok (.isub, 1) := by decide +kernel
theorem dX8_isPiece_10 : decode cX8_isPiece 10 = .ok (.invokestatic 66, 3) := by decide +kernel
theorem dX8_isPiece_13 : decode cX8_isPiece 13 = .ok (.ireturn, 1) := by decide +kernel
set_option maxRecDepth 20000 in
theorem ggX8_isSpot_X8_in : GoodIn wsX8_isSpot wsX8_in := goodIn_r _ [5] (by decide +kernel) (by decide +kernel)
set_option maxRecDepth 20000 in
theorem gX8_isSpot_X8_in : GoodIn wsX8_isSpot (va_wsS RX8 66 yX8_in wsX8_in) := goodIn_app (goodIn_of _ (by decide +kernel)) ggX8_isSpot_X8_in
theorem dX8_isSpot_0 : decode cX8_isSpot 0 = .ok (.iload_n 1, 1) := by decide +kernel
theorem dX8_isSpot_1 : decode cX8_isSpot 1 = .ok (.iconst 0, 1) := by decide +kernel
theorem dX8_isSpot_2 : decode cX8_isSpot 2 = .ok (.aload_n 0, 1) := by decide +kernel
theorem dX8_isSpot_3 : decode cX8_isSpot 3 = .ok (.getfield 26, 3) := by decide +kernel
theorem dX8_isSpot_6 : decode cX8_isSpot 6 = .ok (.iconst 0, 1) := by decide +kernel
theorem dX8_isSpot_7 : decode cX8_isSpot 7 = .ok (.iaload, 1) := by decide +kernel
theorem dX8_isSpot_8 : decode cX8_isSpot 8 = .ok (.iconst 1, 1) := by decide +kernel
theorem dX8_isSpot_9 : decode cX8_isSpot 9 = .ok (.isub, 1) := by decide +kernel
theorem dX8_isSpot_10 : decode cX8_isSpot 10 = .ok (.invokestatic 66, 3) := by decide +kernel
theorem dX8_isSpot_13 : decode cX8_isSpot 13 = .ok (.ireturn, 1) := by decide +kernel
theorem dX8_skyAt_0 : decode cX8_skyAt 0 = .ok (.iload_n 1, 1) := by decide +kernel
theorem dX8_skyAt_1 : decode cX8_skyAt 1 = .ok (.aload_n 0, 1) := by decide +kernel
theorem dX8_skyAt_2 : decode cX8_skyAt 2 = .ok (.getfield 35, 3) := by decide +kernel
theorem dX8_skyAt_5 : decode cX8_skyAt 5 = .ok (.iconst 0, 1) := by decide +kernel
theorem dX8_skyAt_6 : decode cX8_skyAt 6 = .ok (.iaload, 1) := by decide +kernel
theorem dX8_skyAt_7 : decode cX8_skyAt 7 = .ok (.if_icmp .ge 12, 3) := by decide +kernel
theorem dX8_skyAt_10 : decode cX8_skyAt 10 = .ok (.aload_n 0, 1) := by decide +kernel
theorem dX8_skyAt_11 : decode cX8_skyAt 11 = .ok (.getfield 38, 3) := by decide +kernel
theorem dX8_skyAt_14 : decode cX8_skyAt 14 = .ok (.iload_n 1, 1) := by decide +kernel
theorem dX8_skyAt_15 : decode cX8_skyAt 15 = .ok (.iaload, 1) := by decide +kernel
theorem dX8_skyAt_16 : decode cX8_skyAt 16 = .ok (.goto 4, 3) := by decide +kernel
theorem dX8_skyAt_19 : decode cX8_skyAt 19 = .ok (.iconst 0, 1) := by decide +kernel
theorem dX8_skyAt_20 : decode cX8_skyAt 20 = .ok (.ireturn, 1) := by decide +kernel
theorem dX8_pieceOn_0 : decode cX8_pieceOn 0 = .ok (.iconst 0, 1) := by decide +kernel
theorem dX8_pieceOn_1 : decode cX8_pieceOn 1 = .ok (.istore_n 3, 1) := by decide +kernel
theorem dX8_pieceOn_2 : decode cX8_pieceOn 2 = .ok (.iload_n 3, 1) := by decide +kernel
theorem dX8_pieceOn_3 : decode cX8_pieceOn 3 = .ok (.aload_n 0, 1) := by decide +kernel
theorem dX8_pieceOn_4 : decode cX8_pieceOn 4 = .ok (.getfield 13, 3) := by decide +kernel
theorem dX8_pieceOn_7 : decode cX8_pieceOn 7 = .ok (.iconst 0, 1) := by decide +kernel
theorem dX8_pieceOn_8 : decode cX8_pieceOn 8 = .ok (.iaload, 1) := by decide +kernel
theorem dX8_pieceOn_9 : decode cX8_pieceOn 9 = .ok (.if_icmp .ge 26, 3) := by decide +kernel
theorem dX8_pieceOn_12 : decode cX8_pieceOn 12 = .ok (.aload_n 0, 1) := by decide +kernel
theorem dX8_pieceOn_13 : decode cX8_pieceOn 13 = .ok (.getfield 41, 3) := by decide +kernel
theorem dX8_pieceOn_16 : decode cX8_pieceOn 16 = .ok (.iload_n 1, 1) := by decide +kernel
theorem dX8_pieceOn_17 : decode cX8_pieceOn 17 = .ok (.bipush 20, 2) := by decide +kernel
theorem dX8_pieceOn_19 : decode cX8_pieceOn 19 = .ok (.iadd, 1) := by decide +kernel
theorem dX8_pieceOn_20 : decode cX8_pieceOn 20 = .ok (.iload_n 3, 1) := by decide +kernel
theorem dX8_pieceOn_21 : decode cX8_pieceOn 21 = .ok (.iadd, 1) := by decide +kernel
theorem dX8_pieceOn_22 : decode cX8_pieceOn 22 = .ok (.iaload, 1) := by decide +kernel
theorem dX8_pieceOn_23 : decode cX8_pieceOn 23 = .ok (.iload_n 2, 1) := by decide +kernel
theorem dX8_pieceOn_24 : decode cX8_pieceOn 24 = .ok (.if_icmp .ne 5, 3) := by decide +kernel
theorem dX8_pieceOn_27 : decode cX8_pieceOn 27 = .ok (.iload_n 3, 1) := by decide +kernel
theorem dX8_pieceOn_28 : decode cX8_pieceOn 28 = .ok (.ireturn, 1) := by decide +kernel
theorem dX8_pieceOn_29 : decode cX8_pieceOn 29 = .ok (.iinc 3 1, 3) := by decide +kernel
theorem dX8_pieceOn_32 : decode cX8_pieceOn 32 = .ok (.goto (-30), 3) := by decide +kernel
theorem dX8_pieceOn_35 : decode cX8_pieceOn 35 = .ok (.bipush (-9), 2) := by decide +kernel
theorem dX8_pieceOn_37 : decode cX8_pieceOn 37 = .ok (.ireturn, 1) := by decide +kernel
theorem dX8_rackedNow_0 : decode cX8_rackedNow 0 = .ok (.iconst 0, 1) := by decide +kernel
theorem dX8_rackedNow_1 : decode cX8_rackedNow 1 = .ok (.istore_n 1, 1) := by decide +kernel
theorem dX8_rackedNow_2 : decode cX8_rackedNow 2 = .ok (.iconst 0, 1) := by decide +kernel
theorem dX8_rackedNow_3 : decode cX8_rackedNow 3 = .ok (.istore_n 2, 1) := by decide +kernel
theorem dX8_rackedNow_4 : decode cX8_rackedNow 4 = .ok (.iload_n 2, 1) := by decide +kernel
theorem dX8_rackedNow_5 : decode cX8_rackedNow 5 = .ok (.aload_n 0, 1) := by decide +kernel
theorem dX8_rackedNow_6 : decode cX8_rackedNow 6 = .ok (.getfield 13, 3) := by decide +kernel
theorem dX8_rackedNow_9 : decode cX8_rackedNow 9 = .ok (.iconst 0, 1) := by decide +kernel
theorem dX8_rackedNow_10 : decode cX8_rackedNow 10 = .ok (.iaload, 1) := by decide +kernel
theorem dX8_rackedNow_11 : decode cX8_rackedNow 11 = .ok (.if_icmp .ge 31, 3) := by decide +kernel
theorem dX8_rackedNow_14 : decode cX8_rackedNow 14 = .ok (.iload_n 1, 1) := by decide +kernel
theorem dX8_rackedNow_15 : decode cX8_rackedNow 15 = .ok (.aload_n 0, 1) := by decide +kernel
theorem dX8_rackedNow_16 : decode cX8_rackedNow 16 = .ok (.getfield 41, 3) := by decide +kernel
theorem dX8_rackedNow_19 : decode cX8_rackedNow 19 = .ok (.bipush 20, 2) := by decide +kernel
theorem dX8_rackedNow_21 : decode cX8_rackedNow 21 = .ok (.iload_n 2, 1) := by decide +kernel
theorem dX8_rackedNow_22 : decode cX8_rackedNow 22 = .ok (.iadd, 1) := by decide +kernel
theorem dX8_rackedNow_23 : decode cX8_rackedNow 23 = .ok (.iaload, 1) := by decide +kernel
theorem dX8_rackedNow_24 : decode cX8_rackedNow 24 = .ok (.bipush 8, 2) := by decide +kernel
theorem dX8_rackedNow_26 : decode cX8_rackedNow 26 = .ok (.if_icmp .ne 7, 3) := by decide +kernel
theorem dX8_rackedNow_29 : decode cX8_rackedNow 29 = .ok (.iconst 1, 1) := by decide +kernel
theorem dX8_rackedNow_30 : decode cX8_rackedNow 30 = .ok (.goto 4, 3) := by decide +kernel
theorem dX8_rackedNow_33 : decode cX8_rackedNow 33 = .ok (.iconst 0, 1) := by decide +kernel
theorem dX8_rackedNow_34 : decode cX8_rackedNow 34 = .ok (.iadd, 1) := by decide +kernel
theorem dX8_rackedNow_35 : decode cX8_rackedNow 35 = .ok (.istore_n 1, 1) := by decide +kernel
theorem dX8_rackedNow_36 : decode cX8_rackedNow 36 = .ok (.iinc 2 1, 3) := by decide +kernel
theorem dX8_rackedNow_39 : decode cX8_rackedNow 39 = .ok (.goto (-35), 3) := by decide +kernel
theorem dX8_rackedNow_42 : decode cX8_rackedNow 42 = .ok (.iload_n 1, 1) := by decide +kernel
theorem dX8_rackedNow_43 : decode cX8_rackedNow 43 = .ok (.ireturn, 1) := by decide +kernel
set_option maxRecDepth 20000 in
theorem ggX8_piece_X8_isPiece : GoodIn wsX8_piece wsX8_isPiece := goodIn_r _ [8, 9, 10, 11, 7, 12, 13, 14, 15, 16, 17, 18, 19, 20, 21, 22, 23, 24, 25, 26, 27, 28, 29, 30, 31, 32, 33, 34, 35, 36, 37, 38] (by decide +kernel) (by decide +kernel)
set_option maxRecDepth 20000 in
theorem gX8_piece_X8_isPiece : GoodIn wsX8_piece (wsV RX8 116 RX8 yX8_isPiece wsX8_isPiece) := goodIn_app (goodIn_of _ (by decide +kernel)) ggX8_piece_X8_isPiece
theorem dX8_piece_0 : decode cX8_piece 0 = .ok (.aload_n 0, 1) := by decide +kernel
theorem dX8_piece_1 : decode cX8_piece 1 = .ok (.iload_n 1, 1) := by decide +kernel
theorem dX8_piece_2 : decode cX8_piece 2 = .ok (.invokevirtual 116, 3) := by decide +kernel
theorem dX8_piece_5 : decode cX8_piece 5 = .ok (.ifCond .ne 5, 3) := by decide +kernel
theorem dX8_piece_8 : decode cX8_piece 8 = .ok (.iconst (-1), 1) := by decide +kernel
theorem dX8_piece_9 : decode cX8_piece 9 = .ok (.ireturn, 1) := by decide +kernel
theorem dX8_piece_10 : decode cX8_piece 10 = .ok (.iload_n 2, 1) := by decide +kernel
theorem dX8_piece_11 : decode cX8_piece 11 = .ok (.tableswitch 90 0 5 #[37, 46, 53, 60, 70, 80], 37) := by decide +kernel
theorem dX8_piece_48 : decode cX8_piece 48 = .ok (.aload_n 0, 1) := by decide +kernel
theorem dX8_piece_49 : decode cX8_piece 49 = .ok (.getfield 41, 3) := by decide +kernel
theorem dX8_piece_52 : decode cX8_piece 52 = .ok (.iconst 2, 1) := by decide +kernel
theorem dX8_piece_53 : decode cX8_piece 53 = .ok (.iload_n 1, 1) := by decide +kernel
theorem dX8_piece_54 : decode cX8_piece 54 = .ok (.iadd, 1) := by decide +kernel
theorem dX8_piece_55 : decode cX8_piece 55 = .ok (.iaload, 1) := by decide +kernel
theorem dX8_piece_56 : decode cX8_piece 56 = .ok (.ireturn, 1) := by decide +kernel
theorem dX8_piece_57 : decode cX8_piece 57 = .ok (.aload_n 0, 1) := by decide +kernel
theorem dX8_piece_58 : decode cX8_piece 58 = .ok (.getfield 20, 3) := by decide +kernel
theorem dX8_piece_61 : decode cX8_piece 61 = .ok (.iload_n 1, 1) := by decide +kernel
theorem dX8_piece_62 : decode cX8_piece 62 = .ok (.iaload, 1) := by decide +kernel
theorem dX8_piece_63 : decode cX8_piece 63 = .ok (.ireturn, 1) := by decide +kernel
theorem dX8_piece_64 : decode cX8_piece 64 = .ok (.aload_n 0, 1) := by decide +kernel
theorem dX8_piece_65 : decode cX8_piece 65 = .ok (.getfield 23, 3) := by decide +kernel
theorem dX8_piece_68 : decode cX8_piece 68 = .ok (.iload_n 1, 1) := by decide +kernel
theorem dX8_piece_69 : decode cX8_piece 69 = .ok (.iaload, 1) := by decide +kernel
theorem dX8_piece_70 : decode cX8_piece 70 = .ok (.ireturn, 1) := by decide +kernel
theorem dX8_piece_71 : decode cX8_piece 71 = .ok (.aload_n 0, 1) := by decide +kernel
theorem dX8_piece_72 : decode cX8_piece 72 = .ok (.getfield 41, 3) := by decide +kernel
theorem dX8_piece_75 : decode cX8_piece 75 = .ok (.bipush 8, 2) := by decide +kernel
theorem dX8_piece_77 : decode cX8_piece 77 = .ok (.iload_n 1, 1) := by decide +kernel
theorem dX8_piece_78 : decode cX8_piece 78 = .ok (.iadd, 1) := by decide +kernel
theorem dX8_piece_79 : decode cX8_piece 79 = .ok (.iaload, 1) := by decide +kernel
theorem dX8_piece_80 : decode cX8_piece 80 = .ok (.ireturn, 1) := by decide +kernel
theorem dX8_piece_81 : decode cX8_piece 81 = .ok (.aload_n 0, 1) := by decide +kernel
theorem dX8_piece_82 : decode cX8_piece 82 = .ok (.getfield 41, 3) := by decide +kernel
theorem dX8_piece_85 : decode cX8_piece 85 = .ok (.bipush 14, 2) := by decide +kernel
theorem dX8_piece_87 : decode cX8_piece 87 = .ok (.iload_n 1, 1) := by decide +kernel
theorem dX8_piece_88 : decode cX8_piece 88 = .ok (.iadd, 1) := by decide +kernel
theorem dX8_piece_89 : decode cX8_piece 89 = .ok (.iaload, 1) := by decide +kernel
theorem dX8_piece_90 : decode cX8_piece 90 = .ok (.ireturn, 1) := by decide +kernel
theorem dX8_piece_91 : decode cX8_piece 91 = .ok (.aload_n 0, 1) := by decide +kernel
theorem dX8_piece_92 : decode cX8_piece 92 = .ok (.getfield 41, 3) := by decide +kernel
theorem dX8_piece_95 : decode cX8_piece 95 = .ok (.bipush 20, 2) := by decide +kernel
theorem dX8_piece_97 : decode cX8_piece 97 = .ok (.iload_n 1, 1) := by decide +kernel
theorem dX8_piece_98 : decode cX8_piece 98 = .ok (.iadd, 1) := by decide +kernel
theorem dX8_piece_99 : decode cX8_piece 99 = .ok (.iaload, 1) := by decide +kernel
theorem dX8_piece_100 : decode cX8_piece 100 = .ok (.ireturn, 1) := by decide +kernel
theorem dX8_piece_101 : decode cX8_piece 101 = .ok (.iconst (-1), 1) := by decide +kernel
theorem dX8_piece_102 : decode cX8_piece 102 = .ok (.ireturn, 1) := by decide +kernel
set_option maxRecDepth 20000 in
theorem ggX8_spot_X8_isSpot : GoodIn wsX8_spot wsX8_isSpot := goodIn_r _ [7, 8, 9, 10, 6, 11, 18, 19, 20, 21, 22, 23, 24, 25, 26, 27, 28, 29, 30, 31, 32, 33, 34, 35, 36, 37, 38, 39, 40, 41, 42, 43] (by decide +kernel) (by decide +kernel)
set_option maxRecDepth 20000 in
theorem gX8_spot_X8_isSpot : GoodIn wsX8_spot (wsV RX8 120 RX8 yX8_isSpot wsX8_isSpot) := goodIn_app (goodIn_of _ (by decide +kernel)) ggX8_spot_X8_isSpot
set_option maxRecDepth 20000 in
theorem ggX8_spot_X8_in : GoodIn wsX8_spot wsX8_in := goodIn_r _ [11] (by decide +kernel) (by decide +kernel)
set_option maxRecDepth 20000 in
theorem gX8_spot_X8_in : GoodIn wsX8_spot (va_wsS RX8 66 yX8_in wsX8_in) := goodIn_app (goodIn_of _ (by decide +kernel)) ggX8_spot_X8_in
set_option maxRecDepth 20000 in
theorem ggX8_spot_X8_pieceOn : GoodIn wsX8_spot wsX8_pieceOn := goodIn_r _ [15, 16, 17, 18, 19, 20, 21, 22, 23, 24, 25, 26, 27, 28, 29, 30, 31, 32, 33, 34, 35, 36, 37, 38, 39, 40, 41, 42, 43] (by decide +kernel) (by decide +kernel)
set_option maxRecDepth 20000 in
theorem gX8_spot_X8_pieceOn : GoodIn wsX8_spot (wsV RX8 123 RX8 yX8_pieceOn wsX8_pieceOn) := goodIn_app (goodIn_of _ (by decide +kernel)) ggX8_spot_X8_pieceOn
theorem dX8_spot_0 : decode cX8_spot 0 = .ok (.aload_n 0, 1) := by decide +kernel
theorem dX8_spot_1 : decode cX8_spot 1 = .ok (.iload_n 1, 1) := by decide +kernel
theorem dX8_spot_2 : decode cX8_spot 2 = .ok (.invokevirtual 120, 3) := by decide +kernel
theorem dX8_spot_5 : decode cX8_spot 5 = .ok (.ifCond .eq 12, 3) := by decide +kernel
theorem dX8_spot_8 : decode cX8_spot 8 = .ok (.iload_n 2, 1) := by decide +kernel
theorem dX8_spot_9 : decode cX8_spot 9 = .ok (.iconst 0, 1) := by decide +kernel
theorem dX8_spot_10 : decode cX8_spot 10 = .ok (.iconst 2, 1) := by decide +kernel
theorem dX8_spot_11 : decode cX8_spot 11 = .ok (.invokestatic 66, 3) := by decide +kernel
theorem dX8_spot_14 : decode cX8_spot 14 = .ok (.ifCond .ne 5, 3) := by decide +kernel
theorem dX8_spot_17 : decode cX8_spot 17 = .ok (.iconst (-1), 1) := by decide +kernel
theorem dX8_spot_18 : decode cX8_spot 18 = .ok (.ireturn, 1) := by decide +kernel
theorem dX8_spot_19 : decode cX8_spot 19 = .ok (.iload_n 2, 1) := by decide +kernel
theorem dX8_spot_20 : decode cX8_spot 20 = .ok (.ifCond .ne 12, 3) := by decide +kernel
theorem dX8_spot_23 : decode cX8_spot 23 = .ok (.aload_n 0, 1) := by decide +kernel
theorem dX8_spot_24 : decode cX8_spot 24 = .ok (.getfield 29, 3) := by decide +kernel
theorem dX8_spot_27 : decode cX8_spot 27 = .ok (.iload_n 1, 1) := by decide +kernel
theorem dX8_spot_28 : decode cX8_spot 28 = .ok (.iaload, 1) := by decide +kernel
theorem dX8_spot_29 : decode cX8_spot 29 = .ok (.goto 23, 3) := by decide +kernel
theorem dX8_spot_32 : decode cX8_spot 32 = .ok (.iload_n 2, 1) := by decide +kernel
theorem dX8_spot_33 : decode cX8_spot 33 = .ok (.iconst 1, 1) := by decide +kernel
theorem dX8_spot_34 : decode cX8_spot 34 = .ok (.if_icmp .ne 12, 3) := by decide +kernel
theorem dX8_spot_37 : decode cX8_spot 37 = .ok (.aload_n 0, 1) := by decide +kernel
theorem dX8_spot_38 : decode cX8_spot 38 = .ok (.getfield 32, 3) := by decide +kernel
theorem dX8_spot_41 : decode cX8_spot 41 = .ok (.iload_n 1, 1) := by decide +kernel
theorem dX8_spot_42 : decode cX8_spot 42 = .ok (.iaload, 1) := by decide +kernel
theorem dX8_spot_43 : decode cX8_spot 43 = .ok (.goto 9, 3) := by decide +kernel
theorem dX8_spot_46 : decode cX8_spot 46 = .ok (.aload_n 0, 1) := by decide +kernel
theorem dX8_spot_47 : decode cX8_spot 47 = .ok (.iconst 0, 1) := by decide +kernel
theorem dX8_spot_48 : decode cX8_spot 48 = .ok (.iload_n 1, 1) := by decide +kernel
theorem dX8_spot_49 : decode cX8_spot 49 = .ok (.invokevirtual 123, 3) := by decide +kernel
theorem dX8_spot_52 : decode cX8_spot 52 = .ok (.ireturn, 1) := by decide +kernel
set_option maxRecDepth 20000 in
theorem ggX8_sky_X8_in : GoodIn wsX8_sky wsX8_in := goodIn_r _ [5] (by decide +kernel) (by decide +kernel)
set_option maxRecDepth 20000 in
theorem gX8_sky_X8_in : GoodIn wsX8_sky (va_wsS RX8 66 yX8_in wsX8_in) := goodIn_app (goodIn_of _ (by decide +kernel)) ggX8_sky_X8_in
set_option maxRecDepth 20000 in
theorem ggX8_sky_X8_skyAt : GoodIn wsX8_sky wsX8_skyAt := goodIn_r _ [9, 10, 11, 12, 13, 14, 15, 16, 17, 18, 19, 20, 21, 22, 23, 24, 25, 26, 27, 28, 29, 30, 31, 32, 33, 34, 35, 36, 37] (by decide +kernel) (by decide +kernel)
set_option maxRecDepth 20000 in
theorem gX8_sky_X8_skyAt : GoodIn wsX8_sky (wsV RX8 126 RX8 yX8_skyAt wsX8_skyAt) := goodIn_app (goodIn_of _ (by decide +kernel)) ggX8_sky_X8_skyAt
theorem dX8_sky_0 : decode cX8_sky 0 = .ok (.iload_n 1, 1) := by decide +kernel
theorem dX8_sky_1 : decode cX8_sky 1 = .ok (.iconst 0, 1) := by decide +kernel
theorem dX8_sky_2 : decode cX8_sky 2 = .ok (.bipush 99, 2) := by decide +kernel
theorem dX8_sky_4 : decode cX8_sky 4 = .ok (.invokestatic 66, 3) := by decide +kernel
theorem dX8_sky_7 : decode cX8_sky 7 = .ok (.ifCond .eq 11, 3) := by decide +kernel
theorem dX8_sky_10 : decode cX8_sky 10 = .ok (.aload_n 0, 1) := by decide +kernel
theorem dX8_sky_11 : decode cX8_sky 11 = .ok (.iload_n 1, 1) := by decide +kernel
theorem dX8_sky_12 : decode cX8_sky 12 = .ok (.invokevirtual 126, 3) := by decide +kernel
theorem dX8_sky_15 : decode cX8_sky 15 = .ok (.goto 5, 3) := by decide +kernel
theorem dX8_sky_18 : decode cX8_sky 18 = .ok (.ldc 129, 2) := by decide +kernel
theorem dX8_sky_20 : decode cX8_sky 20 = .ok (.ireturn, 1) := by decide +kernel
set_option maxRecDepth 20000 in
theorem ggX8_hang_X8_isPiece : GoodIn wsX8_hang wsX8_isPiece := goodIn_r _ [8, 9, 10, 11, 7, 12, 22, 23, 24, 25, 26, 27, 28, 29, 30, 31, 32, 33, 34, 35, 36, 37, 38, 39, 40, 41, 42, 43, 44, 45, 46, 47] (by decide +kernel) (by decide +kernel)
set_option maxRecDepth 20000 in
theorem gX8_hang_X8_isPiece : GoodIn wsX8_hang (wsV RX8 116 RX8 yX8_isPiece wsX8_isPiece) := goodIn_app (goodIn_of _ (by decide +kernel)) ggX8_hang_X8_isPiece
set_option maxRecDepth 20000 in
theorem ggX8_hang_X8_isSpot : GoodIn wsX8_hang wsX8_isSpot := goodIn_r _ [16, 17, 10, 11, 7, 12, 22, 23, 24, 25, 26, 27, 28, 29, 30, 31, 32, 33, 34, 35, 36, 37, 38, 39, 40, 41, 42, 43, 44, 45, 46, 47] (by decide +kernel) (by decide +kernel)
set_option maxRecDepth 20000 in
theorem gX8_hang_X8_isSpot : GoodIn wsX8_hang (wsV RX8 120 RX8 yX8_isSpot wsX8_isSpot) := goodIn_app (goodIn_of _ (by decide +kernel)) ggX8_hang_X8_isSpot
set_option maxRecDepth 20000 in
theorem ggX8_hang_X8_pieceOn : GoodIn wsX8_hang wsX8_pieceOn := goodIn_r _ [21, 9, 3, 22, 23, 24, 25, 26, 27, 28, 29, 30, 31, 32, 33, 34, 35, 36, 37, 38, 39, 40, 41, 42, 43, 44, 45, 46, 47] (by decide +kernel) (by decide +kernel)
set_option maxRecDepth 20000 in
theorem gX8_hang_X8_pieceOn : GoodIn wsX8_hang (wsV RX8 123 RX8 yX8_pieceOn wsX8_pieceOn) := goodIn_app (goodIn_of _ (by decide +kernel)) ggX8_hang_X8_pieceOn
theorem dX8_hang_0 : decode cX8_hang 0 = .ok (.aload_n 0, 1) := by decide +kernel
theorem dX8_hang_1 : decode cX8_hang 1 = .ok (.iload_n 1, 1) := by decide +kernel
theorem dX8_hang_2 : decode cX8_hang 2 = .ok (.invokevirtual 116, 3) := by decide +kernel
theorem dX8_hang_5 : decode cX8_hang 5 = .ok (.ifCond .eq 11, 3) := by decide +kernel
theorem dX8_hang_8 : decode cX8_hang 8 = .ok (.aload_n 0, 1) := by decide +kernel
theorem dX8_hang_9 : decode cX8_hang 9 = .ok (.iload_n 2, 1) := by decide +kernel
theorem dX8_hang_10 : decode cX8_hang 10 = .ok (.invokevirtual 120, 3) := by decide +kernel
theorem dX8_hang_13 : decode cX8_hang 13 = .ok (.ifCond .ne 5, 3) := by decide +kernel
theorem dX8_hang_16 : decode cX8_hang 16 = .ok (.iconst (-1), 1) := by decide +kernel
theorem dX8_hang_17 : decode cX8_hang 17 = .ok (.ireturn, 1) := by decide +kernel
theorem dX8_hang_18 : decode cX8_hang 18 = .ok (.aload_n 0, 1) := by decide +kernel
theorem dX8_hang_19 : decode cX8_hang 19 = .ok (.iconst 0, 1) := by decide +kernel
theorem dX8_hang_20 : decode cX8_hang 20 = .ok (.iload_n 2, 1) := by decide +kernel
theorem dX8_hang_21 : decode cX8_hang 21 = .ok (.invokevirtual 123, 3) := by decide +kernel
theorem dX8_hang_24 : decode cX8_hang 24 = .ok (.bipush (-9), 2) := by decide +kernel
theorem dX8_hang_26 : decode cX8_hang 26 = .ok (.if_icmp .ne 18, 3) := by decide +kernel
theorem dX8_hang_29 : decode cX8_hang 29 = .ok (.aload_n 0, 1) := by decide +kernel
theorem dX8_hang_30 : decode cX8_hang 30 = .ok (.getfield 20, 3) := by decide +kernel
theorem dX8_hang_33 : decode cX8_hang 33 = .ok (.iload_n 1, 1) := by decide +kernel
theorem dX8_hang_34 : decode cX8_hang 34 = .ok (.iaload, 1) := by decide +kernel
theorem dX8_hang_35 : decode cX8_hang 35 = .ok (.aload_n 0, 1) := by decide +kernel
theorem dX8_hang_36 : decode cX8_hang 36 = .ok (.getfield 29, 3) := by decide +kernel
theorem dX8_hang_39 : decode cX8_hang 39 = .ok (.iload_n 2, 1) := by decide +kernel
theorem dX8_hang_40 : decode cX8_hang 40 = .ok (.iaload, 1) := by decide +kernel
theorem dX8_hang_41 : decode cX8_hang 41 = .ok (.if_icmp .le 6, 3) := by decide +kernel
theorem dX8_hang_44 : decode cX8_hang 44 = .ok (.bipush (-2), 2) := by decide +kernel
theorem dX8_hang_46 : decode cX8_hang 46 = .ok (.ireturn, 1) := by decide +kernel
theorem dX8_hang_47 : decode cX8_hang 47 = .ok (.aload_n 0, 1) := by decide +kernel
theorem dX8_hang_48 : decode cX8_hang 48 = .ok (.getfield 41, 3) := by decide +kernel
theorem dX8_hang_51 : decode cX8_hang 51 = .ok (.bipush 20, 2) := by decide +kernel
theorem dX8_hang_53 : decode cX8_hang 53 = .ok (.iload_n 1, 1) := by decide +kernel
theorem dX8_hang_54 : decode cX8_hang 54 = .ok (.iadd, 1) := by decide +kernel
theorem dX8_hang_55 : decode cX8_hang 55 = .ok (.iload_n 2, 1) := by decide +kernel
theorem dX8_hang_56 : decode cX8_hang 56 = .ok (.iastore, 1) := by decide +kernel
theorem dX8_hang_57 : decode cX8_hang 57 = .ok (.iconst 1, 1) := by decide +kernel
theorem dX8_hang_58 : decode cX8_hang 58 = .ok (.ireturn, 1) := by decide +kernel
set_option maxRecDepth 20000 in
theorem ggX8_rack_X8_isPiece : GoodIn wsX8_rack wsX8_isPiece := goodIn_r _ [6, 7, 8, 9, 5, 10, 15, 16, 17, 18, 19, 20, 21, 22, 23, 24, 25, 26, 27, 28, 29, 30, 31, 32, 33, 34, 35, 36, 37, 38, 39, 40] (by decide +kernel) (by decide +kernel)
set_option maxRecDepth 20000 in
theorem gX8_rack_X8_isPiece : GoodIn wsX8_rack (wsV RX8 116 RX8 yX8_isPiece wsX8_isPiece) := goodIn_app (goodIn_of _ (by decide +kernel)) ggX8_rack_X8_isPiece
set_option maxRecDepth 20000 in
theorem ggX8_rack_X8_rackedNow : GoodIn wsX8_rack wsX8_rackedNow := goodIn_r _ [14, 7, 1, 15, 16, 17, 18, 19, 20, 21, 22, 23, 24, 25, 26, 27, 28, 29, 30, 31, 32, 33, 34, 35, 36, 37, 38, 39, 40] (by decide +kernel) (by decide +kernel)
set_option maxRecDepth 20000 in
theorem gX8_rack_X8_rackedNow : GoodIn wsX8_rack (wsV RX8 130 RX8 yX8_rackedNow wsX8_rackedNow) := goodIn_app (goodIn_of _ (by decide +kernel)) ggX8_rack_X8_rackedNow
theorem dX8_rack_0 : decode cX8_rack 0 = .ok (.aload_n 0, 1) := by decide +kernel
theorem dX8_rack_1 : decode cX8_rack 1 = .ok (.iload_n 1, 1) := by decide +kernel
theorem dX8_rack_2 : decode cX8_rack 2 = .ok (.invokevirtual 116, 3) := by decide +kernel
theorem dX8_rack_5 : decode cX8_rack 5 = .ok (.ifCond .ne 5, 3) := by decide +kernel
theorem dX8_rack_8 : decode cX8_rack 8 = .ok (.iconst (-1), 1) := by decide +kernel
theorem dX8_rack_9 : decode cX8_rack 9 = .ok (.ireturn, 1) := by decide +kernel
theorem dX8_rack_10 : decode cX8_rack 10 = .ok (.aload_n 0, 1) := by decide +kernel
theorem dX8_rack_11 : decode cX8_rack 11 = .ok (.getfield 41, 3) := by decide +kernel
theorem dX8_rack_14 : decode cX8_rack 14 = .ok (.bipush 20, 2) := by decide +kernel
theorem dX8_rack_16 : decode cX8_rack 16 = .ok (.iload_n 1, 1) := by decide +kernel
theorem dX8_rack_17 : decode cX8_rack 17 = .ok (.iadd, 1) := by decide +kernel
theorem dX8_rack_18 : decode cX8_rack 18 = .ok (.iaload, 1) := by decide +kernel
theorem dX8_rack_19 : decode cX8_rack 19 = .ok (.bipush 8, 2) := by decide +kernel
theorem dX8_rack_21 : decode cX8_rack 21 = .ok (.if_icmp .ne 6, 3) := by decide +kernel
theorem dX8_rack_24 : decode cX8_rack 24 = .ok (.bipush (-2), 2) := by decide +kernel
theorem dX8_rack_26 : decode cX8_rack 26 = .ok (.ireturn, 1) := by decide +kernel
theorem dX8_rack_27 : decode cX8_rack 27 = .ok (.aload_n 0, 1) := by decide +kernel
theorem dX8_rack_28 : decode cX8_rack 28 = .ok (.invokevirtual 130, 3) := by decide +kernel
theorem dX8_rack_31 : decode cX8_rack 31 = .ok (.iconst 3, 1) := by decide +kernel
theorem dX8_rack_32 : decode cX8_rack 32 = .ok (.if_icmp .ne 6, 3) := by decide +kernel
theorem dX8_rack_35 : decode cX8_rack 35 = .ok (.bipush (-3), 2) := by decide +kernel
theorem dX8_rack_37 : decode cX8_rack 37 = .ok (.ireturn, 1) := by decide +kernel
theorem dX8_rack_38 : decode cX8_rack 38 = .ok (.aload_n 0, 1) := by decide +kernel
theorem dX8_rack_39 : decode cX8_rack 39 = .ok (.getfield 41, 3) := by decide +kernel
theorem dX8_rack_42 : decode cX8_rack 42 = .ok (.bipush 20, 2) := by decide +kernel
theorem dX8_rack_44 : decode cX8_rack 44 = .ok (.iload_n 1, 1) := by decide +kernel
theorem dX8_rack_45 : decode cX8_rack 45 = .ok (.iadd, 1) := by decide +kernel
theorem dX8_rack_46 : decode cX8_rack 46 = .ok (.bipush 8, 2) := by decide +kernel
theorem dX8_rack_48 : decode cX8_rack 48 = .ok (.iastore, 1) := by decide +kernel
theorem dX8_rack_49 : decode cX8_rack 49 = .ok (.aload_n 0, 1) := by decide +kernel
theorem dX8_rack_50 : decode cX8_rack 50 = .ok (.invokevirtual 130, 3) := by decide +kernel
theorem dX8_rack_53 : decode cX8_rack 53 = .ok (.ireturn, 1) := by decide +kernel
set_option maxRecDepth 20000 in
theorem ggX8_basket_X8_isPiece : GoodIn wsX8_basket wsX8_isPiece := goodIn_r _ [6, 7, 8, 9, 5, 10, 11, 12, 13, 14, 15, 16, 17, 18, 19, 20, 21, 22, 23, 24, 25, 26, 27, 28, 29, 30, 31, 32, 33, 34, 35, 36] (by decide +kernel) (by decide +kernel)
set_option maxRecDepth 20000 in
theorem gX8_basket_X8_isPiece : GoodIn wsX8_basket (wsV RX8 116 RX8 yX8_isPiece wsX8_isPiece) := goodIn_app (goodIn_of _ (by decide +kernel)) ggX8_basket_X8_isPiece
theorem dX8_basket_0 : decode cX8_basket 0 = .ok (.aload_n 0, 1) := by decide +kernel
theorem dX8_basket_1 : decode cX8_basket 1 = .ok (.iload_n 1, 1) := by decide +kernel
theorem dX8_basket_2 : decode cX8_basket 2 = .ok (.invokevirtual 116, 3) := by decide +kernel
theorem dX8_basket_5 : decode cX8_basket 5 = .ok (.ifCond .ne 5, 3) := by decide +kernel
theorem dX8_basket_8 : decode cX8_basket 8 = .ok (.iconst (-1), 1) := by decide +kernel
theorem dX8_basket_9 : decode cX8_basket 9 = .ok (.ireturn, 1) := by decide +kernel
theorem dX8_basket_10 : decode cX8_basket 10 = .ok (.aload_n 0, 1) := by decide +kernel
theorem dX8_basket_11 : decode cX8_basket 11 = .ok (.getfield 41, 3) := by decide +kernel
theorem dX8_basket_14 : decode cX8_basket 14 = .ok (.bipush 20, 2) := by decide +kernel
theorem dX8_basket_16 : decode cX8_basket 16 = .ok (.iload_n 1, 1) := by decide +kernel
theorem dX8_basket_17 : decode cX8_basket 17 = .ok (.iadd, 1) := by decide +kernel
theorem dX8_basket_18 : decode cX8_basket 18 = .ok (.iaload, 1) := by decide +kernel
theorem dX8_basket_19 : decode cX8_basket 19 = .ok (.bipush 9, 2) := by decide +kernel
theorem dX8_basket_21 : decode cX8_basket 21 = .ok (.if_icmp .ne 6, 3) := by decide +kernel
theorem dX8_basket_24 : decode cX8_basket 24 = .ok (.bipush (-2), 2) := by decide +kernel
theorem dX8_basket_26 : decode cX8_basket 26 = .ok (.ireturn, 1) := by decide +kernel
theorem dX8_basket_27 : decode cX8_basket 27 = .ok (.aload_n 0, 1) := by decide +kernel
theorem dX8_basket_28 : decode cX8_basket 28 = .ok (.getfield 41, 3) := by decide +kernel
theorem dX8_basket_31 : decode cX8_basket 31 = .ok (.bipush 20, 2) := by decide +kernel
theorem dX8_basket_33 : decode cX8_basket 33 = .ok (.iload_n 1, 1) := by decide +kernel
theorem dX8_basket_34 : decode cX8_basket 34 = .ok (.iadd, 1) := by decide +kernel
theorem dX8_basket_35 : decode cX8_basket 35 = .ok (.bipush 9, 2) := by decide +kernel
theorem dX8_basket_37 : decode cX8_basket 37 = .ok (.iastore, 1) := by decide +kernel
theorem dX8_basket_38 : decode cX8_basket 38 = .ok (.iconst 1, 1) := by decide +kernel
theorem dX8_basket_39 : decode cX8_basket 39 = .ok (.ireturn, 1) := by decide +kernel
theorem dX8_losesOn_0 : decode cX8_losesOn 0 = .ok (.aload_n 0, 1) := by decide +kernel
theorem dX8_losesOn_1 : decode cX8_losesOn 1 = .ok (.getfield 41, 3) := by decide +kernel
theorem dX8_losesOn_4 : decode cX8_losesOn 4 = .ok (.iload_n 1, 1) := by decide +kernel
theorem dX8_losesOn_5 : decode cX8_losesOn 5 = .ok (.iconst 2, 1) := by decide +kernel
theorem dX8_losesOn_6 : decode cX8_losesOn 6 = .ok (.iadd, 1) := by decide +kernel
theorem dX8_losesOn_7 : decode cX8_losesOn 7 = .ok (.iload_n 2, 1) := by decide +kernel
theorem dX8_losesOn_8 : decode cX8_losesOn 8 = .ok (.iadd, 1) := by decide +kernel
theorem dX8_losesOn_9 : decode cX8_losesOn 9 = .ok (.iaload, 1) := by decide +kernel
theorem dX8_losesOn_10 : decode cX8_losesOn 10 = .ok (.istore 4, 2) := by decide +kernel
theorem dX8_losesOn_12 : decode cX8_losesOn 12 = .ok (.iload_n 3, 1) := by decide +kernel
theorem dX8_losesOn_13 : decode cX8_losesOn 13 = .ok (.ifCond .ge 48, 3) := by decide +kernel
theorem dX8_losesOn_16 : decode cX8_losesOn 16 = .ok (.iload_n 3, 1) := by decide +kernel
theorem dX8_losesOn_17 : decode cX8_losesOn 17 = .ok (.ineg, 1) := by decide +kernel
theorem dX8_losesOn_18 : decode cX8_losesOn 18 = .ok (.aload_n 0, 1) := by decide +kernel
theorem dX8_losesOn_19 : decode cX8_losesOn 19 = .ok (.getfield 20, 3) := by decide +kernel
theorem dX8_losesOn_22 : decode cX8_losesOn 22 = .ok (.iload_n 2, 1) := by decide +kernel
theorem dX8_losesOn_23 : decode cX8_losesOn 23 = .ok (.iaload, 1) := by decide +kernel
theorem dX8_losesOn_24 : decode cX8_losesOn 24 = .ok (.imul, 1) := by decide +kernel
theorem dX8_losesOn_25 : decode cX8_losesOn 25 = .ok (.istore 5, 2) := by decide +kernel
theorem dX8_losesOn_27 : decode cX8_losesOn 27 = .ok (.iload 4, 2) := by decide +kernel
theorem dX8_losesOn_29 : decode cX8_losesOn 29 = .ok (.iload 5, 2) := by decide +kernel
theorem dX8_losesOn_31 : decode cX8_losesOn 31 = .ok (.iadd, 1) := by decide +kernel
theorem dX8_losesOn_32 : decode cX8_losesOn 32 = .ok (.iconst 2, 1) := by decide +kernel
theorem dX8_losesOn_33 : decode cX8_losesOn 33 = .ok (.aload_n 0, 1) := by decide +kernel
theorem dX8_losesOn_34 : decode cX8_losesOn 34 = .ok (.getfield 17, 3) := by decide +kernel
theorem dX8_losesOn_37 : decode cX8_losesOn 37 = .ok (.iload_n 2, 1) := by decide +kernel
theorem dX8_losesOn_38 : decode cX8_losesOn 38 = .ok (.iaload, 1) := by decide +kernel
theorem dX8_losesOn_39 : decode cX8_losesOn 39 = .ok (.imul, 1) := by decide +kernel
theorem dX8_losesOn_40 : decode cX8_losesOn 40 = .ok (.if_icmp .le 17, 3) := by decide +kernel
theorem dX8_losesOn_43 : decode cX8_losesOn 43 = .ok (.iload 4, 2) := by decide +kernel
theorem dX8_losesOn_45 : decode cX8_losesOn 45 = .ok (.iconst 2, 1) := by decide +kernel
theorem dX8_losesOn_46 : decode cX8_losesOn 46 = .ok (.aload_n 0, 1) := by decide +kernel
theorem dX8_losesOn_47 : decode cX8_losesOn 47 = .ok (.getfield 17, 3) := by decide +kernel
theorem dX8_losesOn_50 : decode cX8_losesOn 50 = .ok (.iload_n 2, 1) := by decide +kernel
theorem dX8_losesOn_51 : decode cX8_losesOn 51 = .ok (.iaload, 1) := by decide +kernel
theorem dX8_losesOn_52 : decode cX8_losesOn 52 = .ok (.imul, 1) := by decide +kernel
theorem dX8_losesOn_53 : decode cX8_losesOn 53 = .ok (.isub, 1) := by decide +kernel
theorem dX8_losesOn_54 : decode cX8_losesOn 54 = .ok (.goto 6, 3) := by decide +kernel
theorem dX8_losesOn_57 : decode cX8_losesOn 57 = .ok (.iload 5, 2) := by decide +kernel
theorem dX8_losesOn_59 : decode cX8_losesOn 59 = .ok (.ineg, 1) := by decide +kernel
theorem dX8_losesOn_60 : decode cX8_losesOn 60 = .ok (.ireturn, 1) := by decide +kernel
theorem dX8_losesOn_61 : decode cX8_losesOn 61 = .ok (.iload_n 3, 1) := by decide +kernel
theorem dX8_losesOn_62 : decode cX8_losesOn 62 = .ok (.aload_n 0, 1) := by decide +kernel
theorem dX8_losesOn_63 : decode cX8_losesOn 63 = .ok (.getfield 32, 3) := by decide +kernel
theorem dX8_losesOn_66 : decode cX8_losesOn 66 = .ok (.aload_n 0, 1) := by decide +kernel
theorem dX8_losesOn_67 : decode cX8_losesOn 67 = .ok (.getfield 41, 3) := by decide +kernel
theorem dX8_losesOn_70 : decode cX8_losesOn 70 = .ok (.iload_n 1, 1) := by decide +kernel
theorem dX8_losesOn_71 : decode cX8_losesOn 71 = .ok (.bipush 20, 2) := by decide +kernel
theorem dX8_losesOn_73 : decode cX8_losesOn 73 = .ok (.iadd, 1) := by decide +kernel
theorem dX8_losesOn_74 : decode cX8_losesOn 74 = .ok (.iload_n 2, 1) := by decide +kernel
theorem dX8_losesOn_75 : decode cX8_losesOn 75 = .ok (.iadd, 1) := by decide +kernel
theorem dX8_losesOn_76 : decode cX8_losesOn 76 = .ok (.iaload, 1) := by decide +kernel
theorem dX8_losesOn_77 : decode cX8_losesOn 77 = .ok (.iaload, 1) := by decide +kernel
theorem dX8_losesOn_78 : decode cX8_losesOn 78 = .ok (.iadd, 1) := by decide +kernel
theorem dX8_losesOn_79 : decode cX8_losesOn 79 = .ok (.aload_n 0, 1) := by decide +kernel
theorem dX8_losesOn_80 : decode cX8_losesOn 80 = .ok (.getfield 23, 3) := by decide +kernel
theorem dX8_losesOn_83 : decode cX8_losesOn 83 = .ok (.iload_n 2, 1) := by decide +kernel
theorem dX8_losesOn_84 : decode cX8_losesOn 84 = .ok (.iaload, 1) := by decide +kernel
theorem dX8_losesOn_85 : decode cX8_losesOn 85 = .ok (.imul, 1) := by decide +kernel
theorem dX8_losesOn_86 : decode cX8_losesOn 86 = .ok (.aload_n 0, 1) := by decide +kernel
theorem dX8_losesOn_87 : decode cX8_losesOn 87 = .ok (.getfield 41, 3) := by decide +kernel
theorem dX8_losesOn_90 : decode cX8_losesOn 90 = .ok (.iload_n 1, 1) := by decide +kernel
theorem dX8_losesOn_91 : decode cX8_losesOn 91 = .ok (.iconst 1, 1) := by decide +kernel
theorem dX8_losesOn_92 : decode cX8_losesOn 92 = .ok (.iadd, 1) := by decide +kernel
theorem dX8_losesOn_93 : decode cX8_losesOn 93 = .ok (.iaload, 1) := by decide +kernel
theorem dX8_losesOn_94 : decode cX8_losesOn 94 = .ok (.isub, 1) := by decide +kernel
theorem dX8_losesOn_95 : decode cX8_losesOn 95 = .ok (.istore 5, 2) := by decide +kernel
theorem dX8_losesOn_97 : decode cX8_losesOn 97 = .ok (.iload 5, 2) := by decide +kernel
theorem dX8_losesOn_99 : decode cX8_losesOn 99 = .ok (.ifCond .ge 7, 3) := by decide +kernel
theorem dX8_losesOn_102 : decode cX8_losesOn 102 = .ok (.iconst 0, 1) := by decide +kernel
theorem dX8_losesOn_103 : decode cX8_losesOn 103 = .ok (.goto 17, 3) := by decide +kernel
theorem dX8_losesOn_106 : decode cX8_losesOn 106 = .ok (.iload 5, 2) := by decide +kernel
theorem dX8_losesOn_108 : decode cX8_losesOn 108 = .ok (.iload 4, 2) := by decide +kernel
theorem dX8_losesOn_110 : decode cX8_losesOn 110 = .ok (.if_icmp .le 8, 3) := by decide +kernel
theorem dX8_losesOn_113 : decode cX8_losesOn 113 = .ok (.iload 4, 2) := by decide +kernel
theorem dX8_losesOn_115 : decode cX8_losesOn 115 = .ok (.goto 5, 3) := by decide +kernel
theorem dX8_losesOn_118 : decode cX8_losesOn 118 = .ok (.iload 5, 2) := by decide +kernel
theorem dX8_losesOn_120 : decode cX8_losesOn 120 = .ok (.ireturn, 1) := by decide +kernel
set_option maxRecDepth 20000 in
theorem ggX8_goStep_X8_skyAt : GoodIn wsX8_goStep wsX8_skyAt := goodIn_r _ [7, 8, 9, 18, 19, 20, 21, 22, 23, 24, 25, 26, 27, 28, 29, 30, 31, 32, 33, 34, 35, 36, 37, 38, 39, 40, 41, 42, 43] (by decide +kernel) (by decide +kernel)
set_option maxRecDepth 20000 in
theorem gX8_goStep_X8_skyAt : GoodIn wsX8_goStep (wsV RX8 126 RX8 yX8_skyAt wsX8_skyAt) := goodIn_app (goodIn_of _ (by decide +kernel)) ggX8_goStep_X8_skyAt
set_option maxRecDepth 20000 in
theorem ggX8_goStep_X8_losesOn : GoodIn wsX8_goStep wsX8_losesOn := goodIn_r _ [13, 1, 14, 15, 16, 17, 18, 19, 20, 21, 22, 23, 24, 25, 26, 27, 28, 29, 30, 31, 32, 33, 34, 35, 36, 37, 38, 39, 40, 41, 42, 43] (by decide +kernel) (by decide +kernel)
set_option maxRecDepth 20000 in
theorem gX8_goStep_X8_losesOn : GoodIn wsX8_goStep (wsV RX8 133 RX8 yX8_losesOn wsX8_losesOn) := goodIn_app (goodIn_of _ (by decide +kernel)) ggX8_goStep_X8_losesOn
theorem dX8_goStep_0 : decode cX8_goStep 0 = .ok (.aload_n 0, 1) := by decide +kernel
theorem dX8_goStep_1 : decode cX8_goStep 1 = .ok (.aload_n 0, 1) := by decide +kernel
theorem dX8_goStep_2 : decode cX8_goStep 2 = .ok (.getfield 41, 3) := by decide +kernel
theorem dX8_goStep_5 : decode cX8_goStep 5 = .ok (.iload_n 1, 1) := by decide +kernel
theorem dX8_goStep_6 : decode cX8_goStep 6 = .ok (.iconst 0, 1) := by decide +kernel
theorem dX8_goStep_7 : decode cX8_goStep 7 = .ok (.iadd, 1) := by decide +kernel
theorem dX8_goStep_8 : decode cX8_goStep 8 = .ok (.iaload, 1) := by decide +kernel
theorem dX8_goStep_9 : decode cX8_goStep 9 = .ok (.invokevirtual 126, 3) := by decide +kernel
theorem dX8_goStep_12 : decode cX8_goStep 12 = .ok (.istore_n 2, 1) := by decide +kernel
theorem dX8_goStep_13 : decode cX8_goStep 13 = .ok (.iconst 0, 1) := by decide +kernel
theorem dX8_goStep_14 : decode cX8_goStep 14 = .ok (.istore_n 3, 1) := by decide +kernel
theorem dX8_goStep_15 : decode cX8_goStep 15 = .ok (.iconst 0, 1) := by decide +kernel
theorem dX8_goStep_16 : decode cX8_goStep 16 = .ok (.istore 4, 2) := by decide +kernel
theorem dX8_goStep_18 : decode cX8_goStep 18 = .ok (.iload 4, 2) := by decide +kernel
theorem dX8_goStep_20 : decode cX8_goStep 20 = .ok (.aload_n 0, 1) := by decide +kernel
theorem dX8_goStep_21 : decode cX8_goStep 21 = .ok (.getfield 13, 3) := by decide +kernel
theorem dX8_goStep_24 : decode cX8_goStep 24 = .ok (.iconst 0, 1) := by decide +kernel
theorem dX8_goStep_25 : decode cX8_goStep 25 = .ok (.iaload, 1) := by decide +kernel
theorem dX8_goStep_26 : decode cX8_goStep 26 = .ok (.if_icmp .ge 109, 3) := by decide +kernel
theorem dX8_goStep_29 : decode cX8_goStep 29 = .ok (.aload_n 0, 1) := by decide +kernel
theorem dX8_goStep_30 : decode cX8_goStep 30 = .ok (.getfield 41, 3) := by decide +kernel
theorem dX8_goStep_33 : decode cX8_goStep 33 = .ok (.iload_n 1, 1) := by decide +kernel
theorem dX8_goStep_34 : decode cX8_goStep 34 = .ok (.bipush 20, 2) := by decide +kernel
theorem dX8_goStep_36 : decode cX8_goStep 36 = .ok (.iadd, 1) := by decide +kernel
theorem dX8_goStep_37 : decode cX8_goStep 37 = .ok (.iload 4, 2) := by decide +kernel
theorem dX8_goStep_39 : decode cX8_goStep 39 = .ok (.iadd, 1) := by decide +kernel
theorem dX8_goStep_40 : decode cX8_goStep 40 = .ok (.iaload, 1) := by decide +kernel
theorem dX8_goStep_41 : decode cX8_goStep 41 = .ok (.istore 5, 2) := by decide +kernel
theorem dX8_goStep_43 : decode cX8_goStep 43 = .ok (.iload 5, 2) := by decide +kernel
theorem dX8_goStep_45 : decode cX8_goStep 45 = .ok (.bipush 8, 2) := by decide +kernel
theorem dX8_goStep_47 : decode cX8_goStep 47 = .ok (.if_icmp .ge 46, 3) := by decide +kernel
theorem dX8_goStep_50 : decode cX8_goStep 50 = .ok (.aload_n 0, 1) := by decide +kernel
theorem dX8_goStep_51 : decode cX8_goStep 51 = .ok (.iload_n 1, 1) := by decide +kernel
theorem dX8_goStep_52 : decode cX8_goStep 52 = .ok (.iload 4, 2) := by decide +kernel
theorem dX8_goStep_54 : decode cX8_goStep 54 = .ok (.iload_n 2, 1) := by decide +kernel
theorem dX8_goStep_55 : decode cX8_goStep 55 = .ok (.invokevirtual 133, 3) := by decide +kernel
theorem dX8_goStep_58 : decode cX8_goStep 58 = .ok (.istore 6, 2) := by decide +kernel
theorem dX8_goStep_60 : decode cX8_goStep 60 = .ok (.aload_n 0, 1) := by decide +kernel
theorem dX8_goStep_61 : decode cX8_goStep 61 = .ok (.getfield 41, 3) := by decide +kernel
theorem dX8_goStep_64 : decode cX8_goStep 64 = .ok (.iload_n 1, 1) := by decide +kernel
theorem dX8_goStep_65 : decode cX8_goStep 65 = .ok (.iconst 2, 1) := by decide +kernel
theorem dX8_goStep_66 : decode cX8_goStep 66 = .ok (.iadd, 1) := by decide +kernel
theorem dX8_goStep_67 : decode cX8_goStep 67 = .ok (.iload 4, 2) := by decide +kernel
theorem dX8_goStep_69 : decode cX8_goStep 69 = .ok (.iadd, 1) := by decide +kernel
theorem dX8_goStep_70 : decode cX8_goStep 70 = .ok (.dup2, 1) := by decide +kernel
theorem dX8_goStep_71 : decode cX8_goStep 71 = .ok (.iaload, 1) := by decide +kernel
theorem dX8_goStep_72 : decode cX8_goStep 72 = .ok (.iload 6, 2) := by decide +kernel
theorem dX8_goStep_74 : decode cX8_goStep 74 = .ok (.isub, 1) := by decide +kernel
theorem dX8_goStep_75 : decode cX8_goStep 75 = .ok (.iastore, 1) := by decide +kernel
theorem dX8_goStep_76 : decode cX8_goStep 76 = .ok (.iload_n 3, 1) := by decide +kernel
theorem dX8_goStep_77 : decode cX8_goStep 77 = .ok (.iload 6, 2) := by decide +kernel
theorem dX8_goStep_79 : decode cX8_goStep 79 = .ok (.ifCond .le 8, 3) := by decide +kernel
theorem dX8_goStep_82 : decode cX8_goStep 82 = .ok (.iload 6, 2) := by decide +kernel
theorem dX8_goStep_84 : decode cX8_goStep 84 = .ok (.goto 4, 3) := by decide +kernel
theorem dX8_goStep_87 : decode cX8_goStep 87 = .ok (.iconst 0, 1) := by decide +kernel
theorem dX8_goStep_88 : decode cX8_goStep 88 = .ok (.iadd, 1) := by decide +kernel
theorem dX8_goStep_89 : decode cX8_goStep 89 = .ok (.istore_n 3, 1) := by decide +kernel
theorem dX8_goStep_90 : decode cX8_goStep 90 = .ok (.goto 39, 3) := by decide +kernel
theorem dX8_goStep_93 : decode cX8_goStep 93 = .ok (.iload 5, 2) := by decide +kernel
theorem dX8_goStep_95 : decode cX8_goStep 95 = .ok (.bipush 8, 2) := by decide +kernel
theorem dX8_goStep_97 : decode cX8_goStep 97 = .ok (.if_icmp .ne 32, 3) := by decide +kernel
theorem dX8_goStep_100 : decode cX8_goStep 100 = .ok (.aload_n 0, 1) := by decide +kernel
theorem dX8_goStep_101 : decode cX8_goStep 101 = .ok (.getfield 41, 3) := by decide +kernel
theorem dX8_goStep_104 : decode cX8_goStep 104 = .ok (.iload_n 1, 1) := by decide +kernel
theorem dX8_goStep_105 : decode cX8_goStep 105 = .ok (.iconst 2, 1) := by decide +kernel
theorem dX8_goStep_106 : decode cX8_goStep 106 = .ok (.iadd, 1) := by decide +kernel
theorem dX8_goStep_107 : decode cX8_goStep 107 = .ok (.iload 4, 2) := by decide +kernel
theorem dX8_goStep_109 : decode cX8_goStep 109 = .ok (.iadd, 1) := by decide +kernel
theorem dX8_goStep_110 : decode cX8_goStep 110 = .ok (.iaload, 1) := by decide +kernel
theorem dX8_goStep_111 : decode cX8_goStep 111 = .ok (.ifCond .le 18, 3) := by decide +kernel
theorem dX8_goStep_114 : decode cX8_goStep 114 = .ok (.aload_n 0, 1) := by decide +kernel
theorem dX8_goStep_115 : decode cX8_goStep 115 = .ok (.getfield 41, 3) := by decide +kernel
theorem dX8_goStep_118 : decode cX8_goStep 118 = .ok (.iload_n 1, 1) := by decide +kernel
theorem dX8_goStep_119 : decode cX8_goStep 119 = .ok (.iconst 2, 1) := by decide +kernel
theorem dX8_goStep_120 : decode cX8_goStep 120 = .ok (.iadd, 1) := by decide +kernel
theorem dX8_goStep_121 : decode cX8_goStep 121 = .ok (.iload 4, 2) := by decide +kernel
theorem dX8_goStep_123 : decode cX8_goStep 123 = .ok (.iadd, 1) := by decide +kernel
theorem dX8_goStep_124 : decode cX8_goStep 124 = .ok (.dup2, 1) := by decide +kernel
theorem dX8_goStep_125 : decode cX8_goStep 125 = .ok (.iaload, 1) := by decide +kernel
theorem dX8_goStep_126 : decode cX8_goStep 126 = .ok (.iconst 1, 1) := by decide +kernel
theorem dX8_goStep_127 : decode cX8_goStep 127 = .ok (.isub, 1) := by decide +kernel
theorem dX8_goStep_128 : decode cX8_goStep 128 = .ok (.iastore, 1) := by decide +kernel
theorem dX8_goStep_129 : decode cX8_goStep 129 = .ok (.iinc 4 1, 3) := by decide +kernel
theorem dX8_goStep_132 : decode cX8_goStep 132 = .ok (.goto (-114), 3) := by decide +kernel
theorem dX8_goStep_135 : decode cX8_goStep 135 = .ok (.aload_n 0, 1) := by decide +kernel
theorem dX8_goStep_136 : decode cX8_goStep 136 = .ok (.getfield 41, 3) := by decide +kernel
theorem dX8_goStep_139 : decode cX8_goStep 139 = .ok (.iload_n 1, 1) := by decide +kernel
theorem dX8_goStep_140 : decode cX8_goStep 140 = .ok (.iconst 1, 1) := by decide +kernel
theorem dX8_goStep_141 : decode cX8_goStep 141 = .ok (.iadd, 1) := by decide +kernel
theorem dX8_goStep_142 : decode cX8_goStep 142 = .ok (.aload_n 0, 1) := by decide +kernel
theorem dX8_goStep_143 : decode cX8_goStep 143 = .ok (.getfield 41, 3) := by decide +kernel
theorem dX8_goStep_146 : decode cX8_goStep 146 = .ok (.iload_n 1, 1) := by decide +kernel
theorem dX8_goStep_147 : decode cX8_goStep 147 = .ok (.iconst 1, 1) := by decide +kernel
theorem dX8_goStep_148 : decode cX8_goStep 148 = .ok (.iadd, 1) := by decide +kernel
theorem dX8_goStep_149 : decode cX8_goStep 149 = .ok (.iaload, 1) := by decide +kernel
theorem dX8_goStep_150 : decode cX8_goStep 150 = .ok (.iconst 2, 1) := by decide +kernel
theorem dX8_goStep_151 : decode cX8_goStep 151 = .ok (.idiv, 1) := by decide +kernel
theorem dX8_goStep_152 : decode cX8_goStep 152 = .ok (.iload_n 3, 1) := by decide +kernel
theorem dX8_goStep_153 : decode cX8_goStep 153 = .ok (.bipush 8, 2) := by decide +kernel
theorem dX8_goStep_155 : decode cX8_goStep 155 = .ok (.idiv, 1) := by decide +kernel
theorem dX8_goStep_156 : decode cX8_goStep 156 = .ok (.iadd, 1) := by decide +kernel
theorem dX8_goStep_157 : decode cX8_goStep 157 = .ok (.iastore, 1) := by decide +kernel
theorem dX8_goStep_158 : decode cX8_goStep 158 = .ok (.iconst 0, 1) := by decide +kernel
theorem dX8_goStep_159 : decode cX8_goStep 159 = .ok (.istore 4, 2) := by decide +kernel
theorem dX8_goStep_161 : decode cX8_goStep 161 = .ok (.iload 4, 2) := by decide +kernel
theorem dX8_goStep_163 : decode cX8_goStep 163 = .ok (.aload_n 0, 1) := by decide +kernel
theorem dX8_goStep_164 : decode cX8_goStep 164 = .ok (.getfield 13, 3) := by decide +kernel
theorem dX8_goStep_167 : decode cX8_goStep 167 = .ok (.iconst 0, 1) := by decide +kernel
theorem dX8_goStep_168 : decode cX8_goStep 168 = .ok (.iaload, 1) := by decide +kernel
theorem dX8_goStep_169 : decode cX8_goStep 169 = .ok (.if_icmp .ge 98, 3) := by decide +kernel
theorem dX8_goStep_172 : decode cX8_goStep 172 = .ok (.aload_n 0, 1) := by decide +kernel
theorem dX8_goStep_173 : decode cX8_goStep 173 = .ok (.getfield 41, 3) := by decide +kernel
theorem dX8_goStep_176 : decode cX8_goStep 176 = .ok (.iload_n 1, 1) := by decide +kernel
theorem dX8_goStep_177 : decode cX8_goStep 177 = .ok (.bipush 8, 2) := by decide +kernel
theorem dX8_goStep_179 : decode cX8_goStep 179 = .ok (.iadd, 1) := by decide +kernel
theorem dX8_goStep_180 : decode cX8_goStep 180 = .ok (.iload 4, 2) := by decide +kernel
theorem dX8_goStep_182 : decode cX8_goStep 182 = .ok (.iadd, 1) := by decide +kernel
theorem dX8_goStep_183 : decode cX8_goStep 183 = .ok (.aload_n 0, 1) := by decide +kernel
theorem dX8_goStep_184 : decode cX8_goStep 184 = .ok (.getfield 41, 3) := by decide +kernel
theorem dX8_goStep_187 : decode cX8_goStep 187 = .ok (.iload_n 1, 1) := by decide +kernel
theorem dX8_goStep_188 : decode cX8_goStep 188 = .ok (.iconst 2, 1) := by decide +kernel
theorem dX8_goStep_189 : decode cX8_goStep 189 = .ok (.iadd, 1) := by decide +kernel
theorem dX8_goStep_190 : decode cX8_goStep 190 = .ok (.iload 4, 2) := by decide +kernel
theorem dX8_goStep_192 : decode cX8_goStep 192 = .ok (.iadd, 1) := by decide +kernel
theorem dX8_goStep_193 : decode cX8_goStep 193 = .ok (.iaload, 1) := by decide +kernel
theorem dX8_goStep_194 : decode cX8_goStep 194 = .ok (.ifCond .le 20, 3) := by decide +kernel
theorem dX8_goStep_197 : decode cX8_goStep 197 = .ok (.aload_n 0, 1) := by decide +kernel
theorem dX8_goStep_198 : decode cX8_goStep 198 = .ok (.getfield 41, 3) := by decide +kernel
theorem dX8_goStep_201 : decode cX8_goStep 201 = .ok (.iload_n 1, 1) := by decide +kernel
theorem dX8_goStep_202 : decode cX8_goStep 202 = .ok (.bipush 8, 2) := by decide +kernel
theorem dX8_goStep_204 : decode cX8_goStep 204 = .ok (.iadd, 1) := by decide +kernel
theorem dX8_goStep_205 : decode cX8_goStep 205 = .ok (.iload 4, 2) := by decide +kernel
theorem dX8_goStep_207 : decode cX8_goStep 207 = .ok (.iadd, 1) := by decide +kernel
theorem dX8_goStep_208 : decode cX8_goStep 208 = .ok (.iaload, 1) := by decide +kernel
theorem dX8_goStep_209 : decode cX8_goStep 209 = .ok (.iconst 1, 1) := by decide +kernel
theorem dX8_goStep_210 : decode cX8_goStep 210 = .ok (.iadd, 1) := by decide +kernel
theorem dX8_goStep_211 : decode cX8_goStep 211 = .ok (.goto 4, 3) := by decide +kernel
theorem dX8_goStep_214 : decode cX8_goStep 214 = .ok (.iconst 0, 1) := by decide +kernel
theorem dX8_goStep_215 : decode cX8_goStep 215 = .ok (.iastore, 1) := by decide +kernel
theorem dX8_goStep_216 : decode cX8_goStep 216 = .ok (.aload_n 0, 1) := by decide +kernel
theorem dX8_goStep_217 : decode cX8_goStep 217 = .ok (.getfield 41, 3) := by decide +kernel
theorem dX8_goStep_220 : decode cX8_goStep 220 = .ok (.iload_n 1, 1) := by decide +kernel
theorem dX8_goStep_221 : decode cX8_goStep 221 = .ok (.bipush 14, 2) := by decide +kernel
theorem dX8_goStep_223 : decode cX8_goStep 223 = .ok (.iadd, 1) := by decide +kernel
theorem dX8_goStep_224 : decode cX8_goStep 224 = .ok (.iload 4, 2) := by decide +kernel
theorem dX8_goStep_226 : decode cX8_goStep 226 = .ok (.iadd, 1) := by decide +kernel
theorem dX8_goStep_227 : decode cX8_goStep 227 = .ok (.aload_n 0, 1) := by decide +kernel
theorem dX8_goStep_228 : decode cX8_goStep 228 = .ok (.getfield 41, 3) := by decide +kernel
theorem dX8_goStep_231 : decode cX8_goStep 231 = .ok (.iload_n 1, 1) := by decide +kernel
theorem dX8_goStep_232 : decode cX8_goStep 232 = .ok (.bipush 8, 2) := by decide +kernel
theorem dX8_goStep_234 : decode cX8_goStep 234 = .ok (.iadd, 1) := by decide +kernel
theorem dX8_goStep_235 : decode cX8_goStep 235 = .ok (.iload 4, 2) := by decide +kernel
theorem dX8_goStep_237 : decode cX8_goStep 237 = .ok (.iadd, 1) := by decide +kernel
theorem dX8_goStep_238 : decode cX8_goStep 238 = .ok (.iaload, 1) := by decide +kernel
theorem dX8_goStep_239 : decode cX8_goStep 239 = .ok (.bipush 12, 2) := by decide +kernel
theorem dX8_goStep_241 : decode cX8_goStep 241 = .ok (.if_icmp .lt 7, 3) := by decide +kernel
theorem dX8_goStep_244 : decode cX8_goStep 244 = .ok (.iconst 1, 1) := by decide +kernel
theorem dX8_goStep_245 : decode cX8_goStep 245 = .ok (.goto 15, 3) := by decide +kernel
theorem dX8_goStep_248 : decode cX8_goStep 248 = .ok (.aload_n 0, 1) := by decide +kernel
theorem dX8_goStep_249 : decode cX8_goStep 249 = .ok (.getfield 41, 3) := by decide +kernel
theorem dX8_goStep_252 : decode cX8_goStep 252 = .ok (.iload_n 1, 1) := by decide +kernel
theorem dX8_goStep_253 : decode cX8_goStep 253 = .ok (.bipush 14, 2) := by decide +kernel
theorem dX8_goStep_255 : decode cX8_goStep 255 = .ok (.iadd, 1) := by decide +kernel
theorem dX8_goStep_256 : decode cX8_goStep 256 = .ok (.iload 4, 2) := by decide +kernel
theorem dX8_goStep_258 : decode cX8_goStep 258 = .ok (.iadd, 1) := by decide +kernel
theorem dX8_goStep_259 : decode cX8_goStep 259 = .ok (.iaload, 1) := by decide +kernel
theorem dX8_goStep_260 : decode cX8_goStep 260 = .ok (.iastore, 1) := by decide +kernel
theorem dX8_goStep_261 : decode cX8_goStep 261 = .ok (.iinc 4 1, 3) := by decide +kernel
theorem dX8_goStep_264 : decode cX8_goStep 264 = .ok (.goto (-103), 3) := by decide +kernel
theorem dX8_goStep_267 : decode cX8_goStep 267 = .ok (.aload_n 0, 1) := by decide +kernel
theorem dX8_goStep_268 : decode cX8_goStep 268 = .ok (.getfield 41, 3) := by decide +kernel
theorem dX8_goStep_271 : decode cX8_goStep 271 = .ok (.iload_n 1, 1) := by decide +kernel
theorem dX8_goStep_272 : decode cX8_goStep 272 = .ok (.iconst 0, 1) := by decide +kernel
theorem dX8_goStep_273 : decode cX8_goStep 273 = .ok (.iadd, 1) := by decide +kernel
theorem dX8_goStep_274 : decode cX8_goStep 274 = .ok (.dup2, 1) := by decide +kernel
theorem dX8_goStep_275 : decode cX8_goStep 275 = .ok (.iaload, 1) := by decide +kernel
theorem dX8_goStep_276 : decode cX8_goStep 276 = .ok (.iconst 1, 1) := by decide +kernel
theorem dX8_goStep_277 : decode cX8_goStep 277 = .ok (.iadd, 1) := by decide +kernel
theorem dX8_goStep_278 : decode cX8_goStep 278 = .ok (.iastore, 1) := by decide +kernel
theorem dX8_goStep_279 : decode cX8_goStep 279 = .ok (.iload_n 3, 1) := by decide +kernel
theorem dX8_goStep_280 : decode cX8_goStep 280 = .ok (.ireturn, 1) := by decide +kernel
set_option maxRecDepth 20000 in
theorem ggX8_go_X8_in : GoodIn wsX8_go wsX8_in := goodIn_r _ [5] (by decide +kernel) (by decide +kernel)
set_option maxRecDepth 20000 in
theorem gX8_go_X8_in : GoodIn wsX8_go (va_wsS RX8 66 yX8_in wsX8_in) := goodIn_app (goodIn_of _ (by decide +kernel)) ggX8_go_X8_in
set_option maxRecDepth 20000 in
theorem ggX8_go_X8_goStep : GoodIn wsX8_go wsX8_goStep := goodIn_r _ [9, 1, 10, 11, 12, 13, 4, 14, 15, 16, 17, 18, 19, 20, 21, 22, 23, 24, 25, 26, 27, 28, 29, 30, 31, 32, 33, 34, 35, 36, 37, 38, 39, 40, 41, 42, 43, 44, 45, 46, 47, 48, 49, 50] (by decide +kernel) (by decide +kernel)
set_option maxRecDepth 20000 in
theorem gX8_go_X8_goStep : GoodIn wsX8_go (wsV RX8 137 RX8 yX8_goStep wsX8_goStep) := goodIn_app (goodIn_of _ (by decide +kernel)) ggX8_go_X8_goStep
theorem dX8_go_0 : decode cX8_go 0 = .ok (.iload_n 1, 1) := by decide +kernel
theorem dX8_go_1 : decode cX8_go 1 = .ok (.iconst 1, 1) := by decide +kernel
theorem dX8_go_2 : decode cX8_go 2 = .ok (.bipush 99, 2) := by decide +kernel
theorem dX8_go_4 : decode cX8_go 4 = .ok (.invokestatic 66, 3) := by decide +kernel
theorem dX8_go_7 : decode cX8_go 7 = .ok (.ifCond .ne 5, 3) := by decide +kernel
theorem dX8_go_10 : decode cX8_go 10 = .ok (.iconst (-1), 1) := by decide +kernel
theorem dX8_go_11 : decode cX8_go 11 = .ok (.ireturn, 1) := by decide +kernel
theorem dX8_go_12 : decode cX8_go 12 = .ok (.aload_n 0, 1) := by decide +kernel
theorem dX8_go_13 : decode cX8_go 13 = .ok (.getfield 41, 3) := by decide +kernel
theorem dX8_go_16 : decode cX8_go 16 = .ok (.iconst 0, 1) := by decide +kernel
theorem dX8_go_17 : decode cX8_go 17 = .ok (.iaload, 1) := by decide +kernel
theorem dX8_go_18 : decode cX8_go 18 = .ok (.bipush 99, 2) := by decide +kernel
theorem dX8_go_20 : decode cX8_go 20 = .ok (.if_icmp .ne 6, 3) := by decide +kernel
theorem dX8_go_23 : decode cX8_go 23 = .ok (.bipush (-2), 2) := by decide +kernel
theorem dX8_go_25 : decode cX8_go 25 = .ok (.ireturn, 1) := by decide +kernel
theorem dX8_go_26 : decode cX8_go 26 = .ok (.iconst 0, 1) := by decide +kernel
theorem dX8_go_27 : decode cX8_go 27 = .ok (.istore_n 2, 1) := by decide +kernel
theorem dX8_go_28 : decode cX8_go 28 = .ok (.iconst 0, 1) := by decide +kernel
theorem dX8_go_29 : decode cX8_go 29 = .ok (.istore_n 3, 1) := by decide +kernel
theorem dX8_go_30 : decode cX8_go 30 = .ok (.iload_n 3, 1) := by decide +kernel
theorem dX8_go_31 : decode cX8_go 31 = .ok (.iload_n 1, 1) := by decide +kernel
theorem dX8_go_32 : decode cX8_go 32 = .ok (.if_icmp .ge 28, 3) := by decide +kernel
theorem dX8_go_35 : decode cX8_go 35 = .ok (.aload_n 0, 1) := by decide +kernel
theorem dX8_go_36 : decode cX8_go 36 = .ok (.getfield 41, 3) := by decide +kernel
theorem dX8_go_39 : decode cX8_go 39 = .ok (.iconst 0, 1) := by decide +kernel
theorem dX8_go_40 : decode cX8_go 40 = .ok (.iaload, 1) := by decide +kernel
theorem dX8_go_41 : decode cX8_go 41 = .ok (.bipush 99, 2) := by decide +kernel
theorem dX8_go_43 : decode cX8_go 43 = .ok (.if_icmp .ge 17, 3) := by decide +kernel
theorem dX8_go_46 : decode cX8_go 46 = .ok (.iload_n 2, 1) := by decide +kernel
theorem dX8_go_47 : decode cX8_go 47 = .ok (.aload_n 0, 1) := by decide +kernel
theorem dX8_go_48 : decode cX8_go 48 = .ok (.iconst 0, 1) := by decide +kernel
theorem dX8_go_49 : decode cX8_go 49 = .ok (.invokevirtual 137, 3) := by decide +kernel
theorem dX8_go_52 : decode cX8_go 52 = .ok (.iadd, 1) := by decide +kernel
theorem dX8_go_53 : decode cX8_go 53 = .ok (.istore_n 2, 1) := by decide +kernel
theorem dX8_go_54 : decode cX8_go 54 = .ok (.iinc 3 1, 3) := by decide +kernel
theorem dX8_go_57 : decode cX8_go 57 = .ok (.goto (-27), 3) := by decide +kernel
theorem dX8_go_60 : decode cX8_go 60 = .ok (.iload_n 2, 1) := by decide +kernel
theorem dX8_go_61 : decode cX8_go 61 = .ok (.ireturn, 1) := by decide +kernel
theorem dX8_allWater_0 : decode cX8_allWater 0 = .ok (.iconst 0, 1) := by decide +kernel
theorem dX8_allWater_1 : decode cX8_allWater 1 = .ok (.istore_n 2, 1) := by decide +kernel
theorem dX8_allWater_2 : decode cX8_allWater 2 = .ok (.iconst 0, 1) := by decide +kernel
theorem dX8_allWater_3 : decode cX8_allWater 3 = .ok (.istore_n 3, 1) := by decide +kernel
theorem dX8_allWater_4 : decode cX8_allWater 4 = .ok (.iload_n 3, 1) := by decide +kernel
theorem dX8_allWater_5 : decode cX8_allWater 5 = .ok (.aload_n 0, 1) := by decide +kernel
theorem dX8_allWater_6 : decode cX8_allWater 6 = .ok (.getfield 13, 3) := by decide +kernel
theorem dX8_allWater_9 : decode cX8_allWater 9 = .ok (.iconst 0, 1) := by decide +kernel
theorem dX8_allWater_10 : decode cX8_allWater 10 = .ok (.iaload, 1) := by decide +kernel
theorem dX8_allWater_11 : decode cX8_allWater 11 = .ok (.if_icmp .ge 22, 3) := by decide +kernel
theorem dX8_allWater_14 : decode cX8_allWater 14 = .ok (.iload_n 2, 1) := by decide +kernel
theorem dX8_allWater_15 : decode cX8_allWater 15 = .ok (.aload_n 0, 1) := by decide +kernel
theorem dX8_allWater_16 : decode cX8_allWater 16 = .ok (.getfield 41, 3) := by decide +kernel
theorem dX8_allWater_19 : decode cX8_allWater 19 = .ok (.iload_n 1, 1) := by decide +kernel
theorem dX8_allWater_20 : decode cX8_allWater 20 = .ok (.iconst 2, 1) := by decide +kernel
theorem dX8_allWater_21 : decode cX8_allWater 21 = .ok (.iadd, 1) := by decide +kernel
theorem dX8_allWater_22 : decode cX8_allWater 22 = .ok (.iload_n 3, 1) := by decide +kernel
theorem dX8_allWater_23 : decode cX8_allWater 23 = .ok (.iadd, 1) := by decide +kernel
theorem dX8_allWater_24 : decode cX8_allWater 24 = .ok (.iaload, 1) := by decide +kernel
theorem dX8_allWater_25 : decode cX8_allWater 25 = .ok (.iadd, 1) := by decide +kernel
theorem dX8_allWater_26 : decode cX8_allWater 26 = .ok (.istore_n 2, 1) := by decide +kernel
theorem dX8_allWater_27 : decode cX8_allWater 27 = .ok (.iinc 3 1, 3) := by decide +kernel
theorem dX8_allWater_30 : decode cX8_allWater 30 = .ok (.goto (-26), 3) := by decide +kernel
theorem dX8_allWater_33 : decode cX8_allWater 33 = .ok (.iload_n 2, 1) := by decide +kernel
theorem dX8_allWater_34 : decode cX8_allWater 34 = .ok (.ireturn, 1) := by decide +kernel
set_option maxRecDepth 20000 in
theorem ggX8_now_X8_allWater : GoodIn wsX8_now wsX8_allWater := goodIn_r _ [7, 1, 2, 8, 9, 10, 11, 12, 13, 14, 15, 16, 17, 18, 19, 20, 21, 22, 23, 24, 25, 26, 27, 28, 29, 30, 31, 32, 33] (by decide +kernel) (by decide +kernel)
set_option maxRecDepth 20000 in
theorem gX8_now_X8_allWater : GoodIn wsX8_now (wsV RX8 140 RX8 yX8_allWater wsX8_allWater) := goodIn_app (goodIn_of _ (by decide +kernel)) ggX8_now_X8_allWater
theorem dX8_now_0 : decode cX8_now 0 = .ok (.iconst 0, 1) := by decide +kernel
theorem dX8_now_1 : decode cX8_now 1 = .ok (.istore_n 2, 1) := by decide +kernel
theorem dX8_now_2 : decode cX8_now 2 = .ok (.iconst 0, 1) := by decide +kernel
theorem dX8_now_3 : decode cX8_now 3 = .ok (.istore_n 3, 1) := by decide +kernel
theorem dX8_now_4 : decode cX8_now 4 = .ok (.iconst 0, 1) := by decide +kernel
theorem dX8_now_5 : decode cX8_now 5 = .ok (.istore 4, 2) := by decide +kernel
theorem dX8_now_7 : decode cX8_now 7 = .ok (.iconst 0, 1) := by decide +kernel
theorem dX8_now_8 : decode cX8_now 8 = .ok (.istore 5, 2) := by decide +kernel
theorem dX8_now_10 : decode cX8_now 10 = .ok (.iload 5, 2) := by decide +kernel
theorem dX8_now_12 : decode cX8_now 12 = .ok (.aload_n 0, 1) := by decide +kernel
theorem dX8_now_13 : decode cX8_now 13 = .ok (.getfield 13, 3) := by decide +kernel
theorem dX8_now_16 : decode cX8_now 16 = .ok (.iconst 0, 1) := by decide +kernel
theorem dX8_now_17 : decode cX8_now 17 = .ok (.iaload, 1) := by decide +kernel
theorem dX8_now_18 : decode cX8_now 18 = .ok (.if_icmp .ge 67, 3) := by decide +kernel
theorem dX8_now_21 : decode cX8_now 21 = .ok (.iload_n 2, 1) := by decide +kernel
theorem dX8_now_22 : decode cX8_now 22 = .ok (.aload_n 0, 1) := by decide +kernel
theorem dX8_now_23 : decode cX8_now 23 = .ok (.getfield 41, 3) := by decide +kernel
theorem dX8_now_26 : decode cX8_now 26 = .ok (.bipush 20, 2) := by decide +kernel
theorem dX8_now_28 : decode cX8_now 28 = .ok (.iload 5, 2) := by decide +kernel
theorem dX8_now_30 : decode cX8_now 30 = .ok (.iadd, 1) := by decide +kernel
theorem dX8_now_31 : decode cX8_now 31 = .ok (.iaload, 1) := by decide +kernel
theorem dX8_now_32 : decode cX8_now 32 = .ok (.bipush 8, 2) := by decide +kernel
theorem dX8_now_34 : decode cX8_now 34 = .ok (.if_icmp .ge 7, 3) := by decide +kernel
theorem dX8_now_37 : decode cX8_now 37 = .ok (.iconst 1, 1) := by decide +kernel
theorem dX8_now_38 : decode cX8_now 38 = .ok (.goto 4, 3) := by decide +kernel
theorem dX8_now_41 : decode cX8_now 41 = .ok (.iconst 0, 1) := by decide +kernel
theorem dX8_now_42 : decode cX8_now 42 = .ok (.iadd, 1) := by decide +kernel
theorem dX8_now_43 : decode cX8_now 43 = .ok (.istore_n 2, 1) := by decide +kernel
theorem dX8_now_44 : decode cX8_now 44 = .ok (.iload_n 3, 1) := by decide +kernel
theorem dX8_now_45 : decode cX8_now 45 = .ok (.aload_n 0, 1) := by decide +kernel
theorem dX8_now_46 : decode cX8_now 46 = .ok (.getfield 41, 3) := by decide +kernel
theorem dX8_now_49 : decode cX8_now 49 = .ok (.iconst 2, 1) := by decide +kernel
theorem dX8_now_50 : decode cX8_now 50 = .ok (.iload 5, 2) := by decide +kernel
theorem dX8_now_52 : decode cX8_now 52 = .ok (.iadd, 1) := by decide +kernel
theorem dX8_now_53 : decode cX8_now 53 = .ok (.iaload, 1) := by decide +kernel
theorem dX8_now_54 : decode cX8_now 54 = .ok (.ifCond .ne 7, 3) := by decide +kernel
theorem dX8_now_57 : decode cX8_now 57 = .ok (.iconst 1, 1) := by decide +kernel
theorem dX8_now_58 : decode cX8_now 58 = .ok (.goto 4, 3) := by decide +kernel
theorem dX8_now_61 : decode cX8_now 61 = .ok (.iconst 0, 1) := by decide +kernel
theorem dX8_now_62 : decode cX8_now 62 = .ok (.iadd, 1) := by decide +kernel
theorem dX8_now_63 : decode cX8_now 63 = .ok (.istore_n 3, 1) := by decide +kernel
theorem dX8_now_64 : decode cX8_now 64 = .ok (.iload 4, 2) := by decide +kernel
theorem dX8_now_66 : decode cX8_now 66 = .ok (.aload_n 0, 1) := by decide +kernel
theorem dX8_now_67 : decode cX8_now 67 = .ok (.getfield 41, 3) := by decide +kernel
theorem dX8_now_70 : decode cX8_now 70 = .ok (.bipush 14, 2) := by decide +kernel
theorem dX8_now_72 : decode cX8_now 72 = .ok (.iload 5, 2) := by decide +kernel
theorem dX8_now_74 : decode cX8_now 74 = .ok (.iadd, 1) := by decide +kernel
theorem dX8_now_75 : decode cX8_now 75 = .ok (.iaload, 1) := by decide +kernel
theorem dX8_now_76 : decode cX8_now 76 = .ok (.iadd, 1) := by decide +kernel
theorem dX8_now_77 : decode cX8_now 77 = .ok (.istore 4, 2) := by decide +kernel
theorem dX8_now_79 : decode cX8_now 79 = .ok (.iinc 5 1, 3) := by decide +kernel
theorem dX8_now_82 : decode cX8_now 82 = .ok (.goto (-72), 3) := by decide +kernel
theorem dX8_now_85 : decode cX8_now 85 = .ok (.iload_n 1, 1) := by decide +kernel
theorem dX8_now_86 : decode cX8_now 86 = .ok (.tableswitch 65 0 5 #[38, 45, 52, 58, 60, 62], 38) := by decide +kernel
theorem dX8_now_124 : decode cX8_now 124 = .ok (.aload_n 0, 1) := by decide +kernel
theorem dX8_now_125 : decode cX8_now 125 = .ok (.getfield 41, 3) := by decide +kernel
theorem dX8_now_128 : decode cX8_now 128 = .ok (.iconst 0, 1) := by decide +kernel
theorem dX8_now_129 : decode cX8_now 129 = .ok (.iaload, 1) := by decide +kernel
theorem dX8_now_130 : decode cX8_now 130 = .ok (.ireturn, 1) := by decide +kernel
theorem dX8_now_131 : decode cX8_now 131 = .ok (.aload_n 0, 1) := by decide +kernel
theorem dX8_now_132 : decode cX8_now 132 = .ok (.getfield 41, 3) := by decide +kernel
theorem dX8_now_135 : decode cX8_now 135 = .ok (.iconst 1, 1) := by decide +kernel
theorem dX8_now_136 : decode cX8_now 136 = .ok (.iaload, 1) := by decide +kernel
theorem dX8_now_137 : decode cX8_now 137 = .ok (.ireturn, 1) := by decide +kernel
theorem dX8_now_138 : decode cX8_now 138 = .ok (.aload_n 0, 1) := by decide +kernel
theorem dX8_now_139 : decode cX8_now 139 = .ok (.iconst 0, 1) := by decide +kernel
theorem dX8_now_140 : decode cX8_now 140 = .ok (.invokevirtual 140, 3) := by decide +kernel
theorem dX8_now_143 : decode cX8_now 143 = .ok (.ireturn, 1) := by decide +kernel
theorem dX8_now_144 : decode cX8_now 144 = .ok (.iload_n 2, 1) := by decide +kernel
theorem dX8_now_145 : decode cX8_now 145 = .ok (.ireturn, 1) := by decide +kernel
theorem dX8_now_146 : decode cX8_now 146 = .ok (.iload_n 3, 1) := by decide +kernel
theorem dX8_now_147 : decode cX8_now 147 = .ok (.ireturn, 1) := by decide +kernel
theorem dX8_now_148 : decode cX8_now 148 = .ok (.iload 4, 2) := by decide +kernel
theorem dX8_now_150 : decode cX8_now 150 = .ok (.ireturn, 1) := by decide +kernel
theorem dX8_now_151 : decode cX8_now 151 = .ok (.iconst (-1), 1) := by decide +kernel
theorem dX8_now_152 : decode cX8_now 152 = .ok (.ireturn, 1) := by decide +kernel
theorem dX8_anew_0 : decode cX8_anew 0 = .ok (.aload_n 0, 1) := by decide +kernel
theorem dX8_anew_1 : decode cX8_anew 1 = .ok (.getfield 41, 3) := by decide +kernel
theorem dX8_anew_4 : decode cX8_anew 4 = .ok (.iconst 0, 1) := by decide +kernel
theorem dX8_anew_5 : decode cX8_anew 5 = .ok (.iaload, 1) := by decide +kernel
theorem dX8_anew_6 : decode cX8_anew 6 = .ok (.istore_n 1, 1) := by decide +kernel
theorem dX8_anew_7 : decode cX8_anew 7 = .ok (.aload_n 0, 1) := by decide +kernel
theorem dX8_anew_8 : decode cX8_anew 8 = .ok (.getfield 41, 3) := by decide +kernel
theorem dX8_anew_11 : decode cX8_anew 11 = .ok (.iconst 0, 1) := by decide +kernel
theorem dX8_anew_12 : decode cX8_anew 12 = .ok (.iconst 0, 1) := by decide +kernel
theorem dX8_anew_13 : decode cX8_anew 13 = .ok (.iastore, 1) := by decide +kernel
theorem dX8_anew_14 : decode cX8_anew 14 = .ok (.aload_n 0, 1) := by decide +kernel
theorem dX8_anew_15 : decode cX8_anew 15 = .ok (.getfield 41, 3) := by decide +kernel
theorem dX8_anew_18 : decode cX8_anew 18 = .ok (.iconst 1, 1) := by decide +kernel
theorem dX8_anew_19 : decode cX8_anew 19 = .ok (.iconst 0, 1) := by decide +kernel
theorem dX8_anew_20 : decode cX8_anew 20 = .ok (.iastore, 1) := by decide +kernel
theorem dX8_anew_21 : decode cX8_anew 21 = .ok (.iconst 0, 1) := by decide +kernel
theorem dX8_anew_22 : decode cX8_anew 22 = .ok (.istore_n 2, 1) := by decide +kernel
theorem dX8_anew_23 : decode cX8_anew 23 = .ok (.iload_n 2, 1) := by decide +kernel
theorem dX8_anew_24 : decode cX8_anew 24 = .ok (.bipush 6, 2) := by decide +kernel
theorem dX8_anew_26 : decode cX8_anew 26 = .ok (.if_icmp .ge 68, 3) := by decide +kernel
theorem dX8_anew_29 : decode cX8_anew 29 = .ok (.aload_n 0, 1) := by decide +kernel
theorem dX8_anew_30 : decode cX8_anew 30 = .ok (.getfield 41, 3) := by decide +kernel
theorem dX8_anew_33 : decode cX8_anew 33 = .ok (.iconst 2, 1) := by decide +kernel
theorem dX8_anew_34 : decode cX8_anew 34 = .ok (.iload_n 2, 1) := by decide +kernel
theorem dX8_anew_35 : decode cX8_anew 35 = .ok (.iadd, 1) := by decide +kernel
theorem dX8_anew_36 : decode cX8_anew 36 = .ok (.iload_n 2, 1) := by decide +kernel
theorem dX8_anew_37 : decode cX8_anew 37 = .ok (.aload_n 0, 1) := by decide +kernel
theorem dX8_anew_38 : decode cX8_anew 38 = .ok (.getfield 13, 3) := by decide +kernel
theorem dX8_anew_41 : decode cX8_anew 41 = .ok (.iconst 0, 1) := by decide +kernel
theorem dX8_anew_42 : decode cX8_anew 42 = .ok (.iaload, 1) := by decide +kernel
theorem dX8_anew_43 : decode cX8_anew 43 = .ok (.if_icmp .ge 12, 3) := by decide +kernel
theorem dX8_anew_46 : decode cX8_anew 46 = .ok (.aload_n 0, 1) := by decide +kernel
theorem dX8_anew_47 : decode cX8_anew 47 = .ok (.getfield 17, 3) := by decide +kernel
theorem dX8_anew_50 : decode cX8_anew 50 = .ok (.iload_n 2, 1) := by decide +kernel
theorem dX8_anew_51 : decode cX8_anew 51 = .ok (.iaload, 1) := by decide +kernel
theorem dX8_anew_52 : decode cX8_anew 52 = .ok (.goto 4, 3) := by decide +kernel
theorem dX8_anew_55 : decode cX8_anew 55 = .ok (.iconst 0, 1) := by decide +kernel
theorem dX8_anew_56 : decode cX8_anew 56 = .ok (.iastore, 1) := by decide +kernel
theorem dX8_anew_57 : decode cX8_anew 57 = .ok (.aload_n 0, 1) := by decide +kernel
theorem dX8_anew_58 : decode cX8_anew 58 = .ok (.getfield 41, 3) := by decide +kernel
theorem dX8_anew_61 : decode cX8_anew 61 = .ok (.bipush 8, 2) := by decide +kernel
theorem dX8_anew_63 : decode cX8_anew 63 = .ok (.iload_n 2, 1) := by decide +kernel
theorem dX8_anew_64 : decode cX8_anew 64 = .ok (.iadd, 1) := by decide +kernel
theorem dX8_anew_65 : decode cX8_anew 65 = .ok (.iconst 0, 1) := by decide +kernel
theorem dX8_anew_66 : decode cX8_anew 66 = .ok (.iastore, 1) := by decide +kernel
theorem dX8_anew_67 : decode cX8_anew 67 = .ok (.aload_n 0, 1) := by decide +kernel
theorem dX8_anew_68 : decode cX8_anew 68 = .ok (.getfield 41, 3) := by decide +kernel
theorem dX8_anew_71 : decode cX8_anew 71 = .ok (.bipush 14, 2) := by decide +kernel
theorem dX8_anew_73 : decode cX8_anew 73 = .ok (.iload_n 2, 1) := by decide +kernel
theorem dX8_anew_74 : decode cX8_anew 74 = .ok (.iadd, 1) := by decide +kernel
theorem dX8_anew_75 : decode cX8_anew 75 = .ok (.iconst 0, 1) := by decide +kernel
theorem dX8_anew_76 : decode cX8_anew 76 = .ok (.iastore, 1) := by decide +kernel
theorem dX8_anew_77 : decode cX8_anew 77 = .ok (.aload_n 0, 1) := by decide +kernel
theorem dX8_anew_78 : decode cX8_anew 78 = .ok (.getfield 41, 3) := by decide +kernel
theorem dX8_anew_81 : decode cX8_anew 81 = .ok (.bipush 20, 2) := by decide +kernel
theorem dX8_anew_83 : decode cX8_anew 83 = .ok (.iload_n 2, 1) := by decide +kernel
theorem dX8_anew_84 : decode cX8_anew 84 = .ok (.iadd, 1) := by decide +kernel
theorem dX8_anew_85 : decode cX8_anew 85 = .ok (.bipush 9, 2) := by decide +kernel
theorem dX8_anew_87 : decode cX8_anew 87 = .ok (.iastore, 1) := by decide +kernel
theorem dX8_anew_88 : decode cX8_anew 88 = .ok (.iinc 2 1, 3) := by decide +kernel
theorem dX8_anew_91 : decode cX8_anew 91 = .ok (.goto (-68), 3) := by decide +kernel
theorem dX8_anew_94 : decode cX8_anew 94 = .ok (.iload_n 1, 1) := by decide +kernel
theorem dX8_anew_95 : decode cX8_anew 95 = .ok (.ireturn, 1) := by decide +kernel
theorem dX8_copy_0 : decode cX8_copy 0 = .ok (.iconst 0, 1) := by decide +kernel
theorem dX8_copy_1 : decode cX8_copy 1 = .ok (.istore_n 3, 1) := by decide +kernel
theorem dX8_copy_2 : decode cX8_copy 2 = .ok (.iload_n 3, 1) := by decide +kernel
theorem dX8_copy_3 : decode cX8_copy 3 = .ok (.bipush 26, 2) := by decide +kernel
theorem dX8_copy_5 : decode cX8_copy 5 = .ok (.if_icmp .ge 25, 3) := by decide +kernel
theorem dX8_copy_8 : decode cX8_copy 8 = .ok (.aload_n 0, 1) := by decide +kernel
theorem dX8_copy_9 : decode cX8_copy 9 = .ok (.getfield 41, 3) := by decide +kernel
theorem dX8_copy_12 : decode cX8_copy 12 = .ok (.iload_n 2, 1) := by decide +kernel
theorem dX8_copy_13 : decode cX8_copy 13 = .ok (.iload_n 3, 1) := by decide +kernel
theorem dX8_copy_14 : decode cX8_copy 14 = .ok (.iadd, 1) := by decide +kernel
theorem dX8_copy_15 : decode cX8_copy 15 = .ok (.aload_n 0, 1) := by decide +kernel
theorem dX8_copy_16 : decode cX8_copy 16 = .ok (.getfield 41, 3) := by decide +kernel
theorem dX8_copy_19 : decode cX8_copy 19 = .ok (.iload_n 1, 1) := by decide +kernel
theorem dX8_copy_20 : decode cX8_copy 20 = .ok (.iload_n 3, 1) := by decide +kernel
theorem dX8_copy_21 : decode cX8_copy 21 = .ok (.iadd, 1) := by decide +kernel
theorem dX8_copy_22 : decode cX8_copy 22 = .ok (.iaload, 1) := by decide +kernel
theorem dX8_copy_23 : decode cX8_copy 23 = .ok (.iastore, 1) := by decide +kernel
theorem dX8_copy_24 : decode cX8_copy 24 = .ok (.iinc 3 1, 3) := by decide +kernel
theorem dX8_copy_27 : decode cX8_copy 27 = .ok (.goto (-25), 3) := by decide +kernel
theorem dX8_copy_30 : decode cX8_copy 30 = .ok (.return_, 1) := by decide +kernel
set_option maxRecDepth 20000 in
theorem ggX8_when_X8_isPiece : GoodIn wsX8_when wsX8_isPiece := goodIn_r _ [6, 7, 8, 9, 5, 10, 33, 34, 35, 36, 37, 38, 39, 40, 41, 42, 43, 44, 45, 46, 47, 48, 49, 50, 51, 52, 53, 54, 55, 56, 57, 58] (by decide +kernel) (by decide +kernel)
set_option maxRecDepth 20000 in
theorem gX8_when_X8_isPiece : GoodIn wsX8_when (wsV RX8 116 RX8 yX8_isPiece wsX8_isPiece) := goodIn_app (goodIn_of _ (by decide +kernel)) ggX8_when_X8_isPiece
set_option maxRecDepth 20000 in
theorem ggX8_when_X8_copy : GoodIn wsX8_when wsX8_copy := goodIn_r _ [14, 1, 33, 34, 35, 36, 37, 38, 39, 40, 41, 42, 43, 44, 45, 46, 47, 48, 49, 50, 51, 52, 53, 54, 55, 56, 57, 58] (by decide +kernel) (by decide +kernel)
set_option maxRecDepth 20000 in
theorem gX8_when_X8_copy : GoodIn wsX8_when (wsV RX8 143 RX8 yX8_copy wsX8_copy) := goodIn_app (goodIn_of _ (by decide +kernel)) ggX8_when_X8_copy
set_option maxRecDepth 20000 in
theorem ggX8_when_X8_goStep : GoodIn wsX8_when wsX8_goStep := goodIn_r _ [18, 1, 7, 19, 20, 21, 5, 22, 23, 24, 25, 26, 27, 28, 29, 30, 31, 32, 33, 34, 35, 36, 37, 38, 39, 40, 41, 42, 43, 44, 45, 46, 47, 48, 49, 50, 51, 52, 53, 54, 55, 56, 57, 58] (by decide +kernel) (by decide +kernel)
set_option maxRecDepth 20000 in
theorem gX8_when_X8_goStep : GoodIn wsX8_when (wsV RX8 137 RX8 yX8_goStep wsX8_goStep) := goodIn_app (goodIn_of _ (by decide +kernel)) ggX8_when_X8_goStep
theorem dX8_when_0 : decode cX8_when 0 = .ok (.aload_n 0, 1) := by decide +kernel
theorem dX8_when_1 : decode cX8_when 1 = .ok (.iload_n 1, 1) := by decide +kernel
theorem dX8_when_2 : decode cX8_when 2 = .ok (.invokevirtual 116, 3) := by decide +kernel
theorem dX8_when_5 : decode cX8_when 5 = .ok (.ifCond .ne 5, 3) := by decide +kernel
theorem dX8_when_8 : decode cX8_when 8 = .ok (.iconst (-1), 1) := by decide +kernel
theorem dX8_when_9 : decode cX8_when 9 = .ok (.ireturn, 1) := by decide +kernel
theorem dX8_when_10 : decode cX8_when 10 = .ok (.aload_n 0, 1) := by decide +kernel
theorem dX8_when_11 : decode cX8_when 11 = .ok (.iconst 0, 1) := by decide +kernel
theorem dX8_when_12 : decode cX8_when 12 = .ok (.bipush 26, 2) := by decide +kernel
theorem dX8_when_14 : decode cX8_when 14 = .ok (.invokevirtual 143, 3) := by decide +kernel
theorem dX8_when_17 : decode cX8_when 17 = .ok (.iconst 0, 1) := by decide +kernel
theorem dX8_when_18 : decode cX8_when 18 = .ok (.istore_n 2, 1) := by decide +kernel
theorem dX8_when_19 : decode cX8_when 19 = .ok (.iload_n 2, 1) := by decide +kernel
theorem dX8_when_20 : decode cX8_when 20 = .ok (.bipush 99, 2) := by decide +kernel
theorem dX8_when_22 : decode cX8_when 22 = .ok (.if_icmp .gt 30, 3) := by decide +kernel
theorem dX8_when_25 : decode cX8_when 25 = .ok (.aload_n 0, 1) := by decide +kernel
theorem dX8_when_26 : decode cX8_when 26 = .ok (.getfield 41, 3) := by decide +kernel
theorem dX8_when_29 : decode cX8_when 29 = .ok (.bipush 28, 2) := by decide +kernel
theorem dX8_when_31 : decode cX8_when 31 = .ok (.iload_n 1, 1) := by decide +kernel
theorem dX8_when_32 : decode cX8_when 32 = .ok (.iadd, 1) := by decide +kernel
theorem dX8_when_33 : decode cX8_when 33 = .ok (.iaload, 1) := by decide +kernel
theorem dX8_when_34 : decode cX8_when 34 = .ok (.ifCond .ne 5, 3) := by decide +kernel
theorem dX8_when_37 : decode cX8_when 37 = .ok (.iload_n 2, 1) := by decide +kernel
theorem dX8_when_38 : decode cX8_when 38 = .ok (.ireturn, 1) := by decide +kernel
theorem dX8_when_39 : decode cX8_when 39 = .ok (.aload_n 0, 1) := by decide +kernel
theorem dX8_when_40 : decode cX8_when 40 = .ok (.bipush 26, 2) := by decide +kernel
theorem dX8_when_42 : decode cX8_when 42 = .ok (.invokevirtual 137, 3) := by decide +kernel
theorem dX8_when_45 : decode cX8_when 45 = .ok (.pop, 1) := by decide +kernel
theorem dX8_when_46 : decode cX8_when 46 = .ok (.iinc 2 1, 3) := by decide +kernel
theorem dX8_when_49 : decode cX8_when 49 = .ok (.goto (-30), 3) := by decide +kernel
theorem dX8_when_52 : decode cX8_when 52 = .ok (.bipush (-9), 2) := by decide +kernel
theorem dX8_when_54 : decode cX8_when 54 = .ok (.ireturn, 1) := by decide +kernel
set_option maxRecDepth 20000 in
theorem ggX8_damp_X8_isPiece : GoodIn wsX8_damp wsX8_isPiece := goodIn_r _ [6, 7, 8, 9, 5, 10, 33, 34, 35, 36, 37, 38, 39, 40, 41, 42, 43, 44, 45, 46, 47, 48, 49, 50, 51, 52, 53, 54, 55, 56, 57, 58] (by decide +kernel) (by decide +kernel)
set_option maxRecDepth 20000 in
theorem gX8_damp_X8_isPiece : GoodIn wsX8_damp (wsV RX8 116 RX8 yX8_isPiece wsX8_isPiece) := goodIn_app (goodIn_of _ (by decide +kernel)) ggX8_damp_X8_isPiece
set_option maxRecDepth 20000 in
theorem ggX8_damp_X8_in : GoodIn wsX8_damp wsX8_in := goodIn_r _ [10] (by decide +kernel) (by decide +kernel)
set_option maxRecDepth 20000 in
theorem gX8_damp_X8_in : GoodIn wsX8_damp (va_wsS RX8 66 yX8_in wsX8_in) := goodIn_app (goodIn_of _ (by decide +kernel)) ggX8_damp_X8_in
set_option maxRecDepth 20000 in
theorem ggX8_damp_X8_copy : GoodIn wsX8_damp wsX8_copy := goodIn_r _ [14, 1, 33, 34, 35, 36, 37, 38, 39, 40, 41, 42, 43, 44, 45, 46, 47, 48, 49, 50, 51, 52, 53, 54, 55, 56, 57, 58] (by decide +kernel) (by decide +kernel)
set_option maxRecDepth 20000 in
theorem gX8_damp_X8_copy : GoodIn wsX8_damp (wsV RX8 143 RX8 yX8_copy wsX8_copy) := goodIn_app (goodIn_of _ (by decide +kernel)) ggX8_damp_X8_copy
set_option maxRecDepth 20000 in
theorem ggX8_damp_X8_goStep : GoodIn wsX8_damp wsX8_goStep := goodIn_r _ [18, 1, 7, 19, 20, 21, 5, 22, 23, 24, 25, 26, 27, 28, 29, 30, 31, 32, 33, 34, 35, 36, 37, 38, 39, 40, 41, 42, 43, 44, 45, 46, 47, 48, 49, 50, 51, 52, 53, 54, 55, 56, 57, 58] (by decide +kernel) (by decide +kernel)
set_option maxRecDepth 20000 in
theorem gX8_damp_X8_goStep : GoodIn wsX8_damp (wsV RX8 137 RX8 yX8_goStep wsX8_goStep) := goodIn_app (goodIn_of _ (by decide +kernel)) ggX8_damp_X8_goStep
theorem dX8_damp_0 : decode cX8_damp 0 = .ok (.aload_n 0, 1) := by decide +kernel
theorem dX8_damp_1 : decode cX8_damp 1 = .ok (.iload_n 1, 1) := by decide +kernel
theorem dX8_damp_2 : decode cX8_damp 2 = .ok (.invokevirtual 116, 3) := by decide +kernel
theorem dX8_damp_5 : decode cX8_damp 5 = .ok (.ifCond .eq 33, 3) := by decide +kernel
theorem dX8_damp_8 : decode cX8_damp 8 = .ok (.iload_n 2, 1) := by decide +kernel
theorem dX8_damp_9 : decode cX8_damp 9 = .ok (.iconst 0, 1) := by decide +kernel
theorem dX8_damp_10 : decode cX8_damp 10 = .ok (.bipush 99, 2) := by decide +kernel
theorem dX8_damp_12 : decode cX8_damp 12 = .ok (.invokestatic 66, 3) := by decide +kernel
theorem dX8_damp_15 : decode cX8_damp 15 = .ok (.ifCond .eq 23, 3) := by decide +kernel
theorem dX8_damp_18 : decode cX8_damp 18 = .ok (.iload_n 3, 1) := by decide +kernel
theorem dX8_damp_19 : decode cX8_damp 19 = .ok (.iload_n 2, 1) := by decide +kernel
theorem dX8_damp_20 : decode cX8_damp 20 = .ok (.bipush 99, 2) := by decide +kernel
theorem dX8_damp_22 : decode cX8_damp 22 = .ok (.invokestatic 66, 3) := by decide +kernel
theorem dX8_damp_25 : decode cX8_damp 25 = .ok (.ifCond .eq 13, 3) := by decide +kernel
theorem dX8_damp_28 : decode cX8_damp 28 = .ok (.iload 4, 2) := by decide +kernel
theorem dX8_damp_30 : decode cX8_damp 30 = .ok (.iconst 0, 1) := by decide +kernel
theorem dX8_damp_31 : decode cX8_damp 31 = .ok (.iconst 1, 1) := by decide +kernel
theorem dX8_damp_32 : decode cX8_damp 32 = .ok (.invokestatic 66, 3) := by decide +kernel
theorem dX8_damp_35 : decode cX8_damp 35 = .ok (.ifCond .ne 5, 3) := by decide +kernel
theorem dX8_damp_38 : decode cX8_damp 38 = .ok (.iconst (-1), 1) := by decide +kernel
theorem dX8_damp_39 : decode cX8_damp 39 = .ok (.ireturn, 1) := by decide +kernel
theorem dX8_damp_40 : decode cX8_damp 40 = .ok (.aload_n 0, 1) := by decide +kernel
theorem dX8_damp_41 : decode cX8_damp 41 = .ok (.iconst 0, 1) := by decide +kernel
theorem dX8_damp_42 : decode cX8_damp 42 = .ok (.bipush 26, 2) := by decide +kernel
theorem dX8_damp_44 : decode cX8_damp 44 = .ok (.invokevirtual 143, 3) := by decide +kernel
theorem dX8_damp_47 : decode cX8_damp 47 = .ok (.bipush (-9), 2) := by decide +kernel
theorem dX8_damp_49 : decode cX8_damp 49 = .ok (.istore 5, 2) := by decide +kernel
theorem dX8_damp_51 : decode cX8_damp 51 = .ok (.iconst 0, 1) := by decide +kernel
theorem dX8_damp_52 : decode cX8_damp 52 = .ok (.istore 6, 2) := by decide +kernel
theorem dX8_damp_54 : decode cX8_damp 54 = .ok (.iload 6, 2) := by decide +kernel
theorem dX8_damp_56 : decode cX8_damp 56 = .ok (.bipush 99, 2) := by decide +kernel
theorem dX8_damp_58 : decode cX8_damp 58 = .ok (.if_icmp .gt 59, 3) := by decide +kernel
theorem dX8_damp_61 : decode cX8_damp 61 = .ok (.aload_n 0, 1) := by decide +kernel
theorem dX8_damp_62 : decode cX8_damp 62 = .ok (.getfield 41, 3) := by decide +kernel
theorem dX8_damp_65 : decode cX8_damp 65 = .ok (.bipush 28, 2) := by decide +kernel
theorem dX8_damp_67 : decode cX8_damp 67 = .ok (.iload_n 1, 1) := by decide +kernel
theorem dX8_damp_68 : decode cX8_damp 68 = .ok (.iadd, 1) := by decide +kernel
theorem dX8_damp_69 : decode cX8_damp 69 = .ok (.iaload, 1) := by decide +kernel
theorem dX8_damp_70 : decode cX8_damp 70 = .ok (.iload_n 2, 1) := by decide +kernel
theorem dX8_damp_71 : decode cX8_damp 71 = .ok (.iload_n 3, 1) := by decide +kernel
theorem dX8_damp_72 : decode cX8_damp 72 = .ok (.invokestatic 66, 3) := by decide +kernel
theorem dX8_damp_75 : decode cX8_damp 75 = .ok (.istore 7, 2) := by decide +kernel
theorem dX8_damp_77 : decode cX8_damp 77 = .ok (.iload 7, 2) := by decide +kernel
theorem dX8_damp_79 : decode cX8_damp 79 = .ok (.ifCond .eq 21, 3) := by decide +kernel
theorem dX8_damp_82 : decode cX8_damp 82 = .ok (.iload 4, 2) := by decide +kernel
theorem dX8_damp_84 : decode cX8_damp 84 = .ok (.iconst 1, 1) := by decide +kernel
theorem dX8_damp_85 : decode cX8_damp 85 = .ok (.if_icmp .eq 10, 3) := by decide +kernel
theorem dX8_damp_88 : decode cX8_damp 88 = .ok (.iload 5, 2) := by decide +kernel
theorem dX8_damp_90 : decode cX8_damp 90 = .ok (.bipush (-9), 2) := by decide +kernel
theorem dX8_damp_92 : decode cX8_damp 92 = .ok (.if_icmp .ne 8, 3) := by decide +kernel
theorem dX8_damp_95 : decode cX8_damp 95 = .ok (.iload 6, 2) := by decide +kernel
theorem dX8_damp_97 : decode cX8_damp 97 = .ok (.goto 5, 3) := by decide +kernel
theorem dX8_damp_100 : decode cX8_damp 100 = .ok (.iload 5, 2) := by decide +kernel
theorem dX8_damp_102 : decode cX8_damp 102 = .ok (.istore 5, 2) := by decide +kernel
theorem dX8_damp_104 : decode cX8_damp 104 = .ok (.aload_n 0, 1) := by decide +kernel
theorem dX8_damp_105 : decode cX8_damp 105 = .ok (.bipush 26, 2) := by decide +kernel
theorem dX8_damp_107 : decode cX8_damp 107 = .ok (.invokevirtual 137, 3) := by decide +kernel
theorem dX8_damp_110 : decode cX8_damp 110 = .ok (.pop, 1) := by decide +kernel
theorem dX8_damp_111 : decode cX8_damp 111 = .ok (.iinc 6 1, 3) := by decide +kernel
theorem dX8_damp_114 : decode cX8_damp 114 = .ok (.goto (-60), 3) := by decide +kernel
theorem dX8_damp_117 : decode cX8_damp 117 = .ok (.iload 5, 2) := by decide +kernel
theorem dX8_damp_119 : decode cX8_damp 119 = .ok (.ireturn, 1) := by decide +kernel
theorem dX8_isPlaced_0 : decode cX8_isPlaced 0 = .ok (.iload_n 1, 1) := by decide +kernel
theorem dX8_isPlaced_1 : decode cX8_isPlaced 1 = .ok (.istore_n 2, 1) := by decide +kernel
theorem dX8_isPlaced_2 : decode cX8_isPlaced 2 = .ok (.iconst 0, 1) := by decide +kernel
theorem dX8_isPlaced_3 : decode cX8_isPlaced 3 = .ok (.istore_n 3, 1) := by decide +kernel
theorem dX8_isPlaced_4 : decode cX8_isPlaced 4 = .ok (.aload_n 0, 1) := by decide +kernel
theorem dX8_isPlaced_5 : decode cX8_isPlaced 5 = .ok (.getfield 13, 3) := by decide +kernel
theorem dX8_isPlaced_8 : decode cX8_isPlaced 8 = .ok (.iconst 0, 1) := by decide +kernel
theorem dX8_isPlaced_9 : decode cX8_isPlaced 9 = .ok (.iaload, 1) := by decide +kernel
theorem dX8_isPlaced_10 : decode cX8_isPlaced 10 = .ok (.iconst 1, 1) := by decide +kernel
theorem dX8_isPlaced_11 : decode cX8_isPlaced 11 = .ok (.isub, 1) := by decide +kernel
theorem dX8_isPlaced_12 : decode cX8_isPlaced 12 = .ok (.istore 4, 2) := by decide +kernel
theorem dX8_isPlaced_14 : decode cX8_isPlaced 14 = .ok (.iload 4, 2) := by decide +kernel
theorem dX8_isPlaced_16 : decode cX8_isPlaced 16 = .ok (.ifCond .lt 103, 3) := by decide +kernel
theorem dX8_isPlaced_19 : decode cX8_isPlaced 19 = .ok (.iload_n 2, 1) := by decide +kernel
theorem dX8_isPlaced_20 : decode cX8_isPlaced 20 = .ok (.aload_n 0, 1) := by decide +kernel
theorem dX8_isPlaced_21 : decode cX8_isPlaced 21 = .ok (.getfield 26, 3) := by decide +kernel
theorem dX8_isPlaced_24 : decode cX8_isPlaced 24 = .ok (.iconst 0, 1) := by decide +kernel
theorem dX8_isPlaced_25 : decode cX8_isPlaced 25 = .ok (.iaload, 1) := by decide +kernel
theorem dX8_isPlaced_26 : decode cX8_isPlaced 26 = .ok (.iconst 1, 1) := by decide +kernel
theorem dX8_isPlaced_27 : decode cX8_isPlaced 27 = .ok (.iadd, 1) := by decide +kernel
theorem dX8_isPlaced_28 : decode cX8_isPlaced 28 = .ok (.irem, 1) := by decide +kernel
theorem dX8_isPlaced_29 : decode cX8_isPlaced 29 = .ok (.iconst 1, 1) := by decide +kernel
theorem dX8_isPlaced_30 : decode cX8_isPlaced 30 = .ok (.isub, 1) := by decide +kernel
theorem dX8_isPlaced_31 : decode cX8_isPlaced 31 = .ok (.istore 5, 2) := by decide +kernel
theorem dX8_isPlaced_33 : decode cX8_isPlaced 33 = .ok (.iload_n 2, 1) := by decide +kernel
theorem dX8_isPlaced_34 : decode cX8_isPlaced 34 = .ok (.aload_n 0, 1) := by decide +kernel
theorem dX8_isPlaced_35 : decode cX8_isPlaced 35 = .ok (.getfield 26, 3) := by decide +kernel
theorem dX8_isPlaced_38 : decode cX8_isPlaced 38 = .ok (.iconst 0, 1) := by decide +kernel
theorem dX8_isPlaced_39 : decode cX8_isPlaced 39 = .ok (.iaload, 1) := by decide +kernel
theorem dX8_isPlaced_40 : decode cX8_isPlaced 40 = .ok (.iconst 1, 1) := by decide +kernel
theorem dX8_isPlaced_41 : decode cX8_isPlaced 41 = .ok (.iadd, 1) := by decide +kernel
theorem dX8_isPlaced_42 : decode cX8_isPlaced 42 = .ok (.idiv, 1) := by decide +kernel
theorem dX8_isPlaced_43 : decode cX8_isPlaced 43 = .ok (.istore_n 2, 1) := by decide +kernel
theorem dX8_isPlaced_44 : decode cX8_isPlaced 44 = .ok (.iload 5, 2) := by decide +kernel
theorem dX8_isPlaced_46 : decode cX8_isPlaced 46 = .ok (.ifCond .lt 32, 3) := by decide +kernel
theorem dX8_isPlaced_49 : decode cX8_isPlaced 49 = .ok (.iload_n 3, 1) := by decide +kernel
theorem dX8_isPlaced_50 : decode cX8_isPlaced 50 = .ok (.iload 5, 2) := by decide +kernel
theorem dX8_isPlaced_52 : decode cX8_isPlaced 52 = .ok (.ishr, 1) := by decide +kernel
theorem dX8_isPlaced_53 : decode cX8_isPlaced 53 = .ok (.iconst 1, 1) := by decide +kernel
theorem dX8_isPlaced_54 : decode cX8_isPlaced 54 = .ok (.iand, 1) := by decide +kernel
theorem dX8_isPlaced_55 : decode cX8_isPlaced 55 = .ok (.iconst 1, 1) := by decide +kernel
theorem dX8_isPlaced_56 : decode cX8_isPlaced 56 = .ok (.if_icmp .eq 20, 3) := by decide +kernel
theorem dX8_isPlaced_59 : decode cX8_isPlaced 59 = .ok (.aload_n 0, 1) := by decide +kernel
theorem dX8_isPlaced_60 : decode cX8_isPlaced 60 = .ok (.getfield 20, 3) := by decide +kernel
theorem dX8_isPlaced_63 : decode cX8_isPlaced 63 = .ok (.iload 4, 2) := by decide +kernel
theorem dX8_isPlaced_65 : decode cX8_isPlaced 65 = .ok (.iaload, 1) := by decide +kernel
theorem dX8_isPlaced_66 : decode cX8_isPlaced 66 = .ok (.aload_n 0, 1) := by decide +kernel
theorem dX8_isPlaced_67 : decode cX8_isPlaced 67 = .ok (.getfield 29, 3) := by decide +kernel
theorem dX8_isPlaced_70 : decode cX8_isPlaced 70 = .ok (.iload 5, 2) := by decide +kernel
theorem dX8_isPlaced_72 : decode cX8_isPlaced 72 = .ok (.iaload, 1) := by decide +kernel
theorem dX8_isPlaced_73 : decode cX8_isPlaced 73 = .ok (.if_icmp .le 5, 3) := by decide +kernel
theorem dX8_isPlaced_76 : decode cX8_isPlaced 76 = .ok (.iconst 0, 1) := by decide +kernel
theorem dX8_isPlaced_77 : decode cX8_isPlaced 77 = .ok (.ireturn, 1) := by decide +kernel
theorem dX8_isPlaced_78 : decode cX8_isPlaced 78 = .ok (.iload_n 3, 1) := by decide +kernel
theorem dX8_isPlaced_79 : decode cX8_isPlaced 79 = .ok (.iload 5, 2) := by decide +kernel
theorem dX8_isPlaced_81 : decode cX8_isPlaced 81 = .ok (.ifCond .lt 10, 3) := by decide +kernel
theorem dX8_isPlaced_84 : decode cX8_isPlaced 84 = .ok (.iconst 1, 1) := by decide +kernel
theorem dX8_isPlaced_85 : decode cX8_isPlaced 85 = .ok (.iload 5, 2) := by decide +kernel
theorem dX8_isPlaced_87 : decode cX8_isPlaced 87 = .ok (.ishl, 1) := by decide +kernel
theorem dX8_isPlaced_88 : decode cX8_isPlaced 88 = .ok (.goto 4, 3) := by decide +kernel
theorem dX8_isPlaced_91 : decode cX8_isPlaced 91 = .ok (.iconst 0, 1) := by decide +kernel
theorem dX8_isPlaced_92 : decode cX8_isPlaced 92 = .ok (.ior, 1) := by decide +kernel
theorem dX8_isPlaced_93 : decode cX8_isPlaced 93 = .ok (.istore_n 3, 1) := by decide +kernel
theorem dX8_isPlaced_94 : decode cX8_isPlaced 94 = .ok (.aload_n 0, 1) := by decide +kernel
theorem dX8_isPlaced_95 : decode cX8_isPlaced 95 = .ok (.getfield 48, 3) := by decide +kernel
theorem dX8_isPlaced_98 : decode cX8_isPlaced 98 = .ok (.iload 4, 2) := by decide +kernel
theorem dX8_isPlaced_100 : decode cX8_isPlaced 100 = .ok (.iload 5, 2) := by decide +kernel
theorem dX8_isPlaced_102 : decode cX8_isPlaced 102 = .ok (.ifCond .ge 8, 3) := by decide +kernel
theorem dX8_isPlaced_105 : decode cX8_isPlaced 105 = .ok (.bipush 9, 2) := by decide +kernel
theorem dX8_isPlaced_107 : decode cX8_isPlaced 107 = .ok (.goto 5, 3) := by decide +kernel
theorem dX8_isPlaced_110 : decode cX8_isPlaced 110 = .ok (.iload 5, 2) := by decide +kernel
theorem dX8_isPlaced_112 : decode cX8_isPlaced 112 = .ok (.iastore, 1) := by decide +kernel
theorem dX8_isPlaced_113 : decode cX8_isPlaced 113 = .ok (.iinc 4 (-1), 3) := by decide +kernel
theorem dX8_isPlaced_116 : decode cX8_isPlaced 116 = .ok (.goto (-102), 3) := by decide +kernel
theorem dX8_isPlaced_119 : decode cX8_isPlaced 119 = .ok (.iconst 1, 1) := by decide +kernel
theorem dX8_isPlaced_120 : decode cX8_isPlaced 120 = .ok (.ireturn, 1) := by decide +kernel
set_option maxRecDepth 20000 in
theorem ggX8_where_X8_in : GoodIn wsX8_where wsX8_in := goodIn_r _ [9] (by decide +kernel) (by decide +kernel)
set_option maxRecDepth 20000 in
theorem gX8_where_X8_in : GoodIn wsX8_where (va_wsS RX8 66 yX8_in wsX8_in) := goodIn_app (goodIn_of _ (by decide +kernel)) ggX8_where_X8_in
set_option maxRecDepth 20000 in
theorem ggX8_where_X8_isPlaced : GoodIn wsX8_where wsX8_isPlaced := goodIn_r _ [13, 1, 2, 14, 15, 4, 41, 42, 43, 44, 45, 46, 47, 48, 49, 50, 51, 52, 53, 54, 55, 56, 57, 58, 59, 60, 61, 62, 63, 64, 65, 66] (by decide +kernel) (by decide +kernel)
set_option maxRecDepth 20000 in
theorem gX8_where_X8_isPlaced : GoodIn wsX8_where (wsV RX8 147 RX8 yX8_isPlaced wsX8_isPlaced) := goodIn_app (goodIn_of _ (by decide +kernel)) ggX8_where_X8_isPlaced
set_option maxRecDepth 20000 in
theorem ggX8_where_X8_copy : GoodIn wsX8_where wsX8_copy := goodIn_r _ [19, 3, 41, 42, 43, 44, 45, 46, 47, 48, 49, 50, 51, 52, 53, 54, 55, 56, 57, 58, 59, 60, 61, 62, 63, 64, 65, 66] (by decide +kernel) (by decide +kernel)
set_option maxRecDepth 20000 in
theorem gX8_where_X8_copy : GoodIn wsX8_where (wsV RX8 143 RX8 yX8_copy wsX8_copy) := goodIn_app (goodIn_of _ (by decide +kernel)) ggX8_where_X8_copy
set_option maxRecDepth 20000 in
theorem ggX8_where_X8_goStep : GoodIn wsX8_where wsX8_goStep := goodIn_r _ [23, 3, 1, 24, 25, 26, 8, 27, 28, 29, 30, 31, 32, 33, 14, 34, 35, 36, 41, 42, 43, 44, 45, 46, 47, 48, 49, 50, 51, 52, 53, 54, 55, 56, 57, 58, 59, 60, 61, 62, 63, 64, 65, 66] (by decide +kernel) (by decide +kernel)
set_option maxRecDepth 20000 in
theorem gX8_where_X8_goStep : GoodIn wsX8_where (wsV RX8 137 RX8 yX8_goStep wsX8_goStep) := goodIn_app (goodIn_of _ (by decide +kernel)) ggX8_where_X8_goStep
set_option maxRecDepth 20000 in
theorem ggX8_where_X8_allWater : GoodIn wsX8_where wsX8_allWater := goodIn_r _ [40, 1, 3, 41, 42, 43, 44, 45, 46, 47, 48, 49, 50, 51, 52, 53, 54, 55, 56, 57, 58, 59, 60, 61, 62, 63, 64, 65, 66] (by decide +kernel) (by decide +kernel)
set_option maxRecDepth 20000 in
theorem gX8_where_X8_allWater : GoodIn wsX8_where (wsV RX8 140 RX8 yX8_allWater wsX8_allWater) := goodIn_app (goodIn_of _ (by decide +kernel)) ggX8_where_X8_allWater
theorem dX8_where_0 : decode cX8_where 0 = .ok (.iload_n 1, 1) := by decide +kernel
theorem dX8_where_1 : decode cX8_where 1 = .ok (.iconst 1, 1) := by decide +kernel
theorem dX8_where_2 : decode cX8_where 2 = .ok (.bipush 24, 2) := by decide +kernel
theorem dX8_where_4 : decode cX8_where 4 = .ok (.invokestatic 66, 3) := by decide +kernel
theorem dX8_where_7 : decode cX8_where 7 = .ok (.ifCond .eq 19, 3) := by decide +kernel
theorem dX8_where_10 : decode cX8_where 10 = .ok (.iload_n 2, 1) := by decide +kernel
theorem dX8_where_11 : decode cX8_where 11 = .ok (.iconst (-1), 1) := by decide +kernel
theorem dX8_where_12 : decode cX8_where 12 = .ok (.aload_n 0, 1) := by decide +kernel
theorem dX8_where_13 : decode cX8_where 13 = .ok (.getfield 13, 3) := by decide +kernel
theorem dX8_where_16 : decode cX8_where 16 = .ok (.iconst 0, 1) := by decide +kernel
theorem dX8_where_17 : decode cX8_where 17 = .ok (.iaload, 1) := by decide +kernel
theorem dX8_where_18 : decode cX8_where 18 = .ok (.iconst 1, 1) := by decide +kernel
theorem dX8_where_19 : decode cX8_where 19 = .ok (.isub, 1) := by decide +kernel
theorem dX8_where_20 : decode cX8_where 20 = .ok (.invokestatic 66, 3) := by decide +kernel
theorem dX8_where_23 : decode cX8_where 23 = .ok (.ifCond .ne 5, 3) := by decide +kernel
theorem dX8_where_26 : decode cX8_where 26 = .ok (.iconst (-1), 1) := by decide +kernel
theorem dX8_where_27 : decode cX8_where 27 = .ok (.ireturn, 1) := by decide +kernel
theorem dX8_where_28 : decode cX8_where 28 = .ok (.iconst 1, 1) := by decide +kernel
theorem dX8_where_29 : decode cX8_where 29 = .ok (.istore_n 3, 1) := by decide +kernel
theorem dX8_where_30 : decode cX8_where 30 = .ok (.iconst 0, 1) := by decide +kernel
theorem dX8_where_31 : decode cX8_where 31 = .ok (.istore 4, 2) := by decide +kernel
theorem dX8_where_33 : decode cX8_where 33 = .ok (.iload 4, 2) := by decide +kernel
theorem dX8_where_35 : decode cX8_where 35 = .ok (.aload_n 0, 1) := by decide +kernel
theorem dX8_where_36 : decode cX8_where 36 = .ok (.getfield 13, 3) := by decide +kernel
theorem dX8_where_39 : decode cX8_where 39 = .ok (.iconst 0, 1) := by decide +kernel
theorem dX8_where_40 : decode cX8_where 40 = .ok (.iaload, 1) := by decide +kernel
theorem dX8_where_41 : decode cX8_where 41 = .ok (.if_icmp .ge 20, 3) := by decide +kernel
theorem dX8_where_44 : decode cX8_where 44 = .ok (.iload_n 3, 1) := by decide +kernel
theorem dX8_where_45 : decode cX8_where 45 = .ok (.aload_n 0, 1) := by decide +kernel
theorem dX8_where_46 : decode cX8_where 46 = .ok (.getfield 26, 3) := by decide +kernel
theorem dX8_where_49 : decode cX8_where 49 = .ok (.iconst 0, 1) := by decide +kernel
theorem dX8_where_50 : decode cX8_where 50 = .ok (.iaload, 1) := by decide +kernel
theorem dX8_where_51 : decode cX8_where 51 = .ok (.iconst 1, 1) := by decide +kernel
theorem dX8_where_52 : decode cX8_where 52 = .ok (.iadd, 1) := by decide +kernel
theorem dX8_where_53 : decode cX8_where 53 = .ok (.imul, 1) := by decide +kernel
theorem dX8_where_54 : decode cX8_where 54 = .ok (.istore_n 3, 1) := by decide +kernel
theorem dX8_where_55 : decode cX8_where 55 = .ok (.iinc 4 1, 3) := by decide +kernel
theorem dX8_where_58 : decode cX8_where 58 = .ok (.goto (-25), 3) := by decide +kernel
theorem dX8_where_61 : decode cX8_where 61 = .ok (.bipush (-9), 2) := by decide +kernel
theorem dX8_where_63 : decode cX8_where 63 = .ok (.istore 4, 2) := by decide +kernel
theorem dX8_where_65 : decode cX8_where 65 = .ok (.iconst 0, 1) := by decide +kernel
theorem dX8_where_66 : decode cX8_where 66 = .ok (.istore 5, 2) := by decide +kernel
theorem dX8_where_68 : decode cX8_where 68 = .ok (.iload 5, 2) := by decide +kernel
theorem dX8_where_70 : decode cX8_where 70 = .ok (.iload_n 3, 1) := by decide +kernel
theorem dX8_where_71 : decode cX8_where 71 = .ok (.if_icmp .ge 144, 3) := by decide +kernel
theorem dX8_where_74 : decode cX8_where 74 = .ok (.aload_n 0, 1) := by decide +kernel
theorem dX8_where_75 : decode cX8_where 75 = .ok (.iload 5, 2) := by decide +kernel
theorem dX8_where_77 : decode cX8_where 77 = .ok (.invokevirtual 147, 3) := by decide +kernel
theorem dX8_where_80 : decode cX8_where 80 = .ok (.ifCond .eq 129, 3) := by decide +kernel
theorem dX8_where_83 : decode cX8_where 83 = .ok (.aload_n 0, 1) := by decide +kernel
theorem dX8_where_84 : decode cX8_where 84 = .ok (.iconst 0, 1) := by decide +kernel
theorem dX8_where_85 : decode cX8_where 85 = .ok (.bipush 26, 2) := by decide +kernel
theorem dX8_where_87 : decode cX8_where 87 = .ok (.invokevirtual 143, 3) := by decide +kernel
theorem dX8_where_90 : decode cX8_where 90 = .ok (.iconst 0, 1) := by decide +kernel
theorem dX8_where_91 : decode cX8_where 91 = .ok (.istore 6, 2) := by decide +kernel
theorem dX8_where_93 : decode cX8_where 93 = .ok (.iload 6, 2) := by decide +kernel
theorem dX8_where_95 : decode cX8_where 95 = .ok (.aload_n 0, 1) := by decide +kernel
theorem dX8_where_96 : decode cX8_where 96 = .ok (.getfield 13, 3) := by decide +kernel
theorem dX8_where_99 : decode cX8_where 99 = .ok (.iconst 0, 1) := by decide +kernel
theorem dX8_where_100 : decode cX8_where 100 = .ok (.iaload, 1) := by decide +kernel
theorem dX8_where_101 : decode cX8_where 101 = .ok (.if_icmp .ge 26, 3) := by decide +kernel
theorem dX8_where_104 : decode cX8_where 104 = .ok (.aload_n 0, 1) := by decide +kernel
theorem dX8_where_105 : decode cX8_where 105 = .ok (.getfield 41, 3) := by decide +kernel
theorem dX8_where_108 : decode cX8_where 108 = .ok (.bipush 46, 2) := by decide +kernel
theorem dX8_where_110 : decode cX8_where 110 = .ok (.iload 6, 2) := by decide +kernel
theorem dX8_where_112 : decode cX8_where 112 = .ok (.iadd, 1) := by decide +kernel
theorem dX8_where_113 : decode cX8_where 113 = .ok (.aload_n 0, 1) := by decide +kernel
theorem dX8_where_114 : decode cX8_where 114 = .ok (.getfield 48, 3) := by decide +kernel
theorem dX8_where_117 : decode cX8_where 117 = .ok (.iload 6, 2) := by decide +kernel
theorem dX8_where_119 : decode cX8_where 119 = .ok (.iaload, 1) := by decide +kernel
theorem dX8_where_120 : decode cX8_where 120 = .ok (.iastore, 1) := by decide +kernel
theorem dX8_where_121 : decode cX8_where 121 = .ok (.iinc 6 1, 3) := by decide +kernel
theorem dX8_where_124 : decode cX8_where 124 = .ok (.goto (-31), 3) := by decide +kernel
theorem dX8_where_127 : decode cX8_where 127 = .ok (.iconst 0, 1) := by decide +kernel
theorem dX8_where_128 : decode cX8_where 128 = .ok (.istore 6, 2) := by decide +kernel
theorem dX8_where_130 : decode cX8_where 130 = .ok (.iload 6, 2) := by decide +kernel
theorem dX8_where_132 : decode cX8_where 132 = .ok (.iload_n 1, 1) := by decide +kernel
theorem dX8_where_133 : decode cX8_where 133 = .ok (.if_icmp .ge 16, 3) := by decide +kernel
theorem dX8_where_136 : decode cX8_where 136 = .ok (.aload_n 0, 1) := by decide +kernel
theorem dX8_where_137 : decode cX8_where 137 = .ok (.bipush 26, 2) := by decide +kernel
theorem dX8_where_139 : decode cX8_where 139 = .ok (.invokevirtual 137, 3) := by decide +kernel
theorem dX8_where_142 : decode cX8_where 142 = .ok (.pop, 1) := by decide +kernel
theorem dX8_where_143 : decode cX8_where 143 = .ok (.iinc 6 1, 3) := by decide +kernel
theorem dX8_where_146 : decode cX8_where 146 = .ok (.goto (-16), 3) := by decide +kernel
theorem dX8_where_149 : decode cX8_where 149 = .ok (.aload_n 0, 1) := by decide +kernel
theorem dX8_where_150 : decode cX8_where 150 = .ok (.bipush 26, 2) := by decide +kernel
theorem dX8_where_152 : decode cX8_where 152 = .ok (.invokevirtual 140, 3) := by decide +kernel
theorem dX8_where_155 : decode cX8_where 155 = .ok (.istore 6, 2) := by decide +kernel
theorem dX8_where_157 : decode cX8_where 157 = .ok (.iload 4, 2) := by decide +kernel
theorem dX8_where_159 : decode cX8_where 159 = .ok (.bipush (-9), 2) := by decide +kernel
theorem dX8_where_161 : decode cX8_where 161 = .ok (.if_icmp .eq 10, 3) := by decide +kernel
theorem dX8_where_164 : decode cX8_where 164 = .ok (.iload 6, 2) := by decide +kernel
theorem dX8_where_166 : decode cX8_where 166 = .ok (.iload 4, 2) := by decide +kernel
theorem dX8_where_168 : decode cX8_where 168 = .ok (.if_icmp .ge 41, 3) := by decide +kernel
theorem dX8_where_171 : decode cX8_where 171 = .ok (.iload 6, 2) := by decide +kernel
theorem dX8_where_173 : decode cX8_where 173 = .ok (.istore 4, 2) := by decide +kernel
theorem dX8_where_175 : decode cX8_where 175 = .ok (.iconst 0, 1) := by decide +kernel
theorem dX8_where_176 : decode cX8_where 176 = .ok (.istore 7, 2) := by decide +kernel
theorem dX8_where_178 : decode cX8_where 178 = .ok (.iload 7, 2) := by decide +kernel
theorem dX8_where_180 : decode cX8_where 180 = .ok (.aload_n 0, 1) := by decide +kernel
theorem dX8_where_181 : decode cX8_where 181 = .ok (.getfield 13, 3) := by decide +kernel
theorem dX8_where_184 : decode cX8_where 184 = .ok (.iconst 0, 1) := by decide +kernel
theorem dX8_where_185 : decode cX8_where 185 = .ok (.iaload, 1) := by decide +kernel
theorem dX8_where_186 : decode cX8_where 186 = .ok (.if_icmp .ge 23, 3) := by decide +kernel
theorem dX8_where_189 : decode cX8_where 189 = .ok (.aload_n 0, 1) := by decide +kernel
theorem dX8_where_190 : decode cX8_where 190 = .ok (.getfield 51, 3) := by decide +kernel
theorem dX8_where_193 : decode cX8_where 193 = .ok (.iload 7, 2) := by decide +kernel
theorem dX8_where_195 : decode cX8_where 195 = .ok (.aload_n 0, 1) := by decide +kernel
theorem dX8_where_196 : decode cX8_where 196 = .ok (.getfield 48, 3) := by decide +kernel
theorem dX8_where_199 : decode cX8_where 199 = .ok (.iload 7, 2) := by decide +kernel
theorem dX8_where_201 : decode cX8_where 201 = .ok (.iaload, 1) := by decide +kernel
theorem dX8_where_202 : decode cX8_where 202 = .ok (.iastore, 1) := by decide +kernel
theorem dX8_where_203 : decode cX8_where 203 = .ok (.iinc 7 1, 3) := by decide +kernel
theorem dX8_where_206 : decode cX8_where 206 = .ok (.goto (-28), 3) := by decide +kernel
theorem dX8_where_209 : decode cX8_where 209 = .ok (.iinc 5 1, 3) := by decide +kernel
theorem dX8_where_212 : decode cX8_where 212 = .ok (.goto (-144), 3) := by decide +kernel
theorem dX8_where_215 : decode cX8_where 215 = .ok (.iload_n 2, 1) := by decide +kernel
theorem dX8_where_216 : decode cX8_where 216 = .ok (.iconst (-1), 1) := by decide +kernel
theorem dX8_where_217 : decode cX8_where 217 = .ok (.if_icmp .ne 8, 3) := by decide +kernel
theorem dX8_where_220 : decode cX8_where 220 = .ok (.iload 4, 2) := by decide +kernel
theorem dX8_where_222 : decode cX8_where 222 = .ok (.goto 9, 3) := by decide +kernel
theorem dX8_where_225 : decode cX8_where 225 = .ok (.aload_n 0, 1) := by decide +kernel
theorem dX8_where_226 : decode cX8_where 226 = .ok (.getfield 51, 3) := by decide +kernel
theorem dX8_where_229 : decode cX8_where 229 = .ok (.iload_n 2, 1) := by decide +kernel
theorem dX8_where_230 : decode cX8_where 230 = .ok (.iaload, 1) := by decide +kernel
theorem dX8_where_231 : decode cX8_where 231 = .ok (.ireturn, 1) := by decide +kernel
theorem dX8_hanging_0 : decode cX8_hanging 0 = .ok (.iconst 0, 1) := by decide +kernel
theorem dX8_hanging_1 : decode cX8_hanging 1 = .ok (.istore_n 1, 1) := by decide +kernel
theorem dX8_hanging_2 : decode cX8_hanging 2 = .ok (.iconst 0, 1) := by decide +kernel
theorem dX8_hanging_3 : decode cX8_hanging 3 = .ok (.istore_n 2, 1) := by decide +kernel
theorem dX8_hanging_4 : decode cX8_hanging 4 = .ok (.iload_n 2, 1) := by decide +kernel
theorem dX8_hanging_5 : decode cX8_hanging 5 = .ok (.aload_n 0, 1) := by decide +kernel
theorem dX8_hanging_6 : decode cX8_hanging 6 = .ok (.getfield 13, 3) := by decide +kernel
theorem dX8_hanging_9 : decode cX8_hanging 9 = .ok (.iconst 0, 1) := by decide +kernel
theorem dX8_hanging_10 : decode cX8_hanging 10 = .ok (.iaload, 1) := by decide +kernel
theorem dX8_hanging_11 : decode cX8_hanging 11 = .ok (.if_icmp .ge 33, 3) := by decide +kernel
theorem dX8_hanging_14 : decode cX8_hanging 14 = .ok (.iload_n 1, 1) := by decide +kernel
theorem dX8_hanging_15 : decode cX8_hanging 15 = .ok (.aload_n 0, 1) := by decide +kernel
theorem dX8_hanging_16 : decode cX8_hanging 16 = .ok (.getfield 41, 3) := by decide +kernel
theorem dX8_hanging_19 : decode cX8_hanging 19 = .ok (.bipush 20, 2) := by decide +kernel
theorem dX8_hanging_21 : decode cX8_hanging 21 = .ok (.iload_n 2, 1) := by decide +kernel
theorem dX8_hanging_22 : decode cX8_hanging 22 = .ok (.iadd, 1) := by decide +kernel
theorem dX8_hanging_23 : decode cX8_hanging 23 = .ok (.iaload, 1) := by decide +kernel
theorem dX8_hanging_24 : decode cX8_hanging 24 = .ok (.bipush 8, 2) := by decide +kernel
theorem dX8_hanging_26 : decode cX8_hanging 26 = .ok (.if_icmp .ge 9, 3) := by decide +kernel
theorem dX8_hanging_29 : decode cX8_hanging 29 = .ok (.iconst 1, 1) := by decide +kernel
theorem dX8_hanging_30 : decode cX8_hanging 30 = .ok (.iload_n 2, 1) := by decide +kernel
theorem dX8_hanging_31 : decode cX8_hanging 31 = .ok (.ishl, 1) := by decide +kernel
theorem dX8_hanging_32 : decode cX8_hanging 32 = .ok (.goto 4, 3) := by decide +kernel
theorem dX8_hanging_35 : decode cX8_hanging 35 = .ok (.iconst 0, 1) := by decide +kernel
theorem dX8_hanging_36 : decode cX8_hanging 36 = .ok (.ior, 1) := by decide +kernel
theorem dX8_hanging_37 : decode cX8_hanging 37 = .ok (.istore_n 1, 1) := by decide +kernel
theorem dX8_hanging_38 : decode cX8_hanging 38 = .ok (.iinc 2 1, 3) := by decide +kernel
theorem dX8_hanging_41 : decode cX8_hanging 41 = .ok (.goto (-37), 3) := by decide +kernel
theorem dX8_hanging_44 : decode cX8_hanging 44 = .ok (.iload_n 1, 1) := by decide +kernel
theorem dX8_hanging_45 : decode cX8_hanging 45 = .ok (.ireturn, 1) := by decide +kernel
theorem dX8_isRow_0 : decode cX8_isRow 0 = .ok (.iload_n 1, 1) := by decide +kernel
theorem dX8_isRow_1 : decode cX8_isRow 1 = .ok (.istore 4, 2) := by decide +kernel
theorem dX8_isRow_3 : decode cX8_isRow 3 = .ok (.iload_n 3, 1) := by decide +kernel
theorem dX8_isRow_4 : decode cX8_isRow 4 = .ok (.istore 5, 2) := by decide +kernel
theorem dX8_isRow_6 : decode cX8_isRow 6 = .ok (.iload_n 2, 1) := by decide +kernel
theorem dX8_isRow_7 : decode cX8_isRow 7 = .ok (.iconst 1, 1) := by decide +kernel
theorem dX8_isRow_8 : decode cX8_isRow 8 = .ok (.isub, 1) := by decide +kernel
theorem dX8_isRow_9 : decode cX8_isRow 9 = .ok (.istore 6, 2) := by decide +kernel
theorem dX8_isRow_11 : decode cX8_isRow 11 = .ok (.iload 6, 2) := by decide +kernel
theorem dX8_isRow_13 : decode cX8_isRow 13 = .ok (.ifCond .lt 61, 3) := by decide +kernel
theorem dX8_isRow_16 : decode cX8_isRow 16 = .ok (.aload_n 0, 1) := by decide +kernel
theorem dX8_isRow_17 : decode cX8_isRow 17 = .ok (.getfield 54, 3) := by decide +kernel
theorem dX8_isRow_20 : decode cX8_isRow 20 = .ok (.iload 6, 2) := by decide +kernel
theorem dX8_isRow_22 : decode cX8_isRow 22 = .ok (.iload 4, 2) := by decide +kernel
theorem dX8_isRow_24 : decode cX8_isRow 24 = .ok (.bipush 6, 2) := by decide +kernel
theorem dX8_isRow_26 : decode cX8_isRow 26 = .ok (.irem, 1) := by decide +kernel
theorem dX8_isRow_27 : decode cX8_isRow 27 = .ok (.iastore, 1) := by decide +kernel
theorem dX8_isRow_28 : decode cX8_isRow 28 = .ok (.iload 4, 2) := by decide +kernel
theorem dX8_isRow_30 : decode cX8_isRow 30 = .ok (.bipush 6, 2) := by decide +kernel
theorem dX8_isRow_32 : decode cX8_isRow 32 = .ok (.idiv, 1) := by decide +kernel
theorem dX8_isRow_33 : decode cX8_isRow 33 = .ok (.istore 4, 2) := by decide +kernel
theorem dX8_isRow_35 : decode cX8_isRow 35 = .ok (.iload 5, 2) := by decide +kernel
theorem dX8_isRow_37 : decode cX8_isRow 37 = .ok (.aload_n 0, 1) := by decide +kernel
theorem dX8_isRow_38 : decode cX8_isRow 38 = .ok (.getfield 54, 3) := by decide +kernel
theorem dX8_isRow_41 : decode cX8_isRow 41 = .ok (.iload 6, 2) := by decide +kernel
theorem dX8_isRow_43 : decode cX8_isRow 43 = .ok (.iaload, 1) := by decide +kernel
theorem dX8_isRow_44 : decode cX8_isRow 44 = .ok (.ishr, 1) := by decide +kernel
theorem dX8_isRow_45 : decode cX8_isRow 45 = .ok (.iconst 1, 1) := by decide +kernel
theorem dX8_isRow_46 : decode cX8_isRow 46 = .ok (.iand, 1) := by decide +kernel
theorem dX8_isRow_47 : decode cX8_isRow 47 = .ok (.ifCond .ne 5, 3) := by decide +kernel
theorem dX8_isRow_50 : decode cX8_isRow 50 = .ok (.iconst 0, 1) := by decide +kernel
theorem dX8_isRow_51 : decode cX8_isRow 51 = .ok (.ireturn, 1) := by decide +kernel
theorem dX8_isRow_52 : decode cX8_isRow 52 = .ok (.iload 5, 2) := by decide +kernel
theorem dX8_isRow_54 : decode cX8_isRow 54 = .ok (.iconst 1, 1) := by decide +kernel
theorem dX8_isRow_55 : decode cX8_isRow 55 = .ok (.aload_n 0, 1) := by decide +kernel
theorem dX8_isRow_56 : decode cX8_isRow 56 = .ok (.getfield 54, 3) := by decide +kernel
theorem dX8_isRow_59 : decode cX8_isRow 59 = .ok (.iload 6, 2) := by decide +kernel
theorem dX8_isRow_61 : decode cX8_isRow 61 = .ok (.iaload, 1) := by decide +kernel
theorem dX8_isRow_62 : decode cX8_isRow 62 = .ok (.ishl, 1) := by decide +kernel
theorem dX8_isRow_63 : decode cX8_isRow 63 = .ok (.iconst (-1), 1) := by decide +kernel
theorem dX8_isRow_64 : decode cX8_isRow 64 = .ok (.ixor, 1) := by decide +kernel
theorem dX8_isRow_65 : decode cX8_isRow 65 = .ok (.iand, 1) := by decide +kernel
theorem dX8_isRow_66 : decode cX8_isRow 66 = .ok (.istore 5, 2) := by decide +kernel
theorem dX8_isRow_68 : decode cX8_isRow 68 = .ok (.iinc 6 (-1), 3) := by decide +kernel
theorem dX8_isRow_71 : decode cX8_isRow 71 = .ok (.goto (-60), 3) := by decide +kernel
theorem dX8_isRow_74 : decode cX8_isRow 74 = .ok (.iconst 1, 1) := by decide +kernel
theorem dX8_isRow_75 : decode cX8_isRow 75 = .ok (.ireturn, 1) := by decide +kernel
set_option maxRecDepth 20000 in
theorem ggX8_waterBy_X8_allWater : GoodIn wsX8_waterBy wsX8_allWater := goodIn_r _ [9, 10, 2, 11, 12, 13, 14, 15, 16, 17, 18, 19, 20, 21, 22, 23, 24, 25, 26, 27, 28, 29, 30, 31, 32, 33, 34, 35, 36] (by decide +kernel) (by decide +kernel)
set_option maxRecDepth 20000 in
theorem gX8_waterBy_X8_allWater : GoodIn wsX8_waterBy (wsV RX8 140 RX8 yX8_allWater wsX8_allWater) := goodIn_app (goodIn_of _ (by decide +kernel)) ggX8_waterBy_X8_allWater
theorem dX8_waterBy_0 : decode cX8_waterBy 0 = .ok (.aload_n 0, 1) := by decide +kernel
theorem dX8_waterBy_1 : decode cX8_waterBy 1 = .ok (.iconst 0, 1) := by decide +kernel
theorem dX8_waterBy_2 : decode cX8_waterBy 2 = .ok (.invokevirtual 140, 3) := by decide +kernel
theorem dX8_waterBy_5 : decode cX8_waterBy 5 = .ok (.istore_n 3, 1) := by decide +kernel
theorem dX8_waterBy_6 : decode cX8_waterBy 6 = .ok (.iconst 0, 1) := by decide +kernel
theorem dX8_waterBy_7 : decode cX8_waterBy 7 = .ok (.istore 4, 2) := by decide +kernel
theorem dX8_waterBy_9 : decode cX8_waterBy 9 = .ok (.iload 4, 2) := by decide +kernel
theorem dX8_waterBy_11 : decode cX8_waterBy 11 = .ok (.iload_n 1, 1) := by decide +kernel
theorem dX8_waterBy_12 : decode cX8_waterBy 12 = .ok (.if_icmp .ge 83, 3) := by decide +kernel
theorem dX8_waterBy_15 : decode cX8_waterBy 15 = .ok (.aload_n 0, 1) := by decide +kernel
theorem dX8_waterBy_16 : decode cX8_waterBy 16 = .ok (.getfield 54, 3) := by decide +kernel
theorem dX8_waterBy_19 : decode cX8_waterBy 19 = .ok (.iload 4, 2) := by decide +kernel
theorem dX8_waterBy_21 : decode cX8_waterBy 21 = .ok (.iaload, 1) := by decide +kernel
theorem dX8_waterBy_22 : decode cX8_waterBy 22 = .ok (.istore 5, 2) := by decide +kernel
theorem dX8_waterBy_24 : decode cX8_waterBy 24 = .ok (.aload_n 0, 1) := by decide +kernel
theorem dX8_waterBy_25 : decode cX8_waterBy 25 = .ok (.getfield 41, 3) := by decide +kernel
theorem dX8_waterBy_28 : decode cX8_waterBy 28 = .ok (.iconst 2, 1) := by decide +kernel
theorem dX8_waterBy_29 : decode cX8_waterBy 29 = .ok (.iload 5, 2) := by decide +kernel
theorem dX8_waterBy_31 : decode cX8_waterBy 31 = .ok (.iadd, 1) := by decide +kernel
theorem dX8_waterBy_32 : decode cX8_waterBy 32 = .ok (.iaload, 1) := by decide +kernel
theorem dX8_waterBy_33 : decode cX8_waterBy 33 = .ok (.iload 4, 2) := by decide +kernel
theorem dX8_waterBy_35 : decode cX8_waterBy 35 = .ok (.iload_n 2, 1) := by decide +kernel
theorem dX8_waterBy_36 : decode cX8_waterBy 36 = .ok (.imul, 1) := by decide +kernel
theorem dX8_waterBy_37 : decode cX8_waterBy 37 = .ok (.aload_n 0, 1) := by decide +kernel
theorem dX8_waterBy_38 : decode cX8_waterBy 38 = .ok (.getfield 20, 3) := by decide +kernel
theorem dX8_waterBy_41 : decode cX8_waterBy 41 = .ok (.iload 5, 2) := by decide +kernel
theorem dX8_waterBy_43 : decode cX8_waterBy 43 = .ok (.iaload, 1) := by decide +kernel
theorem dX8_waterBy_44 : decode cX8_waterBy 44 = .ok (.imul, 1) := by decide +kernel
theorem dX8_waterBy_45 : decode cX8_waterBy 45 = .ok (.iadd, 1) := by decide +kernel
theorem dX8_waterBy_46 : decode cX8_waterBy 46 = .ok (.istore 6, 2) := by decide +kernel
theorem dX8_waterBy_48 : decode cX8_waterBy 48 = .ok (.iload_n 3, 1) := by decide +kernel
theorem dX8_waterBy_49 : decode cX8_waterBy 49 = .ok (.iload 6, 2) := by decide +kernel
theorem dX8_waterBy_51 : decode cX8_waterBy 51 = .ok (.iconst 2, 1) := by decide +kernel
theorem dX8_waterBy_52 : decode cX8_waterBy 52 = .ok (.aload_n 0, 1) := by decide +kernel
theorem dX8_waterBy_53 : decode cX8_waterBy 53 = .ok (.getfield 17, 3) := by decide +kernel
theorem dX8_waterBy_56 : decode cX8_waterBy 56 = .ok (.iload 5, 2) := by decide +kernel
theorem dX8_waterBy_58 : decode cX8_waterBy 58 = .ok (.iaload, 1) := by decide +kernel
theorem dX8_waterBy_59 : decode cX8_waterBy 59 = .ok (.imul, 1) := by decide +kernel
theorem dX8_waterBy_60 : decode cX8_waterBy 60 = .ok (.if_icmp .le 15, 3) := by decide +kernel
theorem dX8_waterBy_63 : decode cX8_waterBy 63 = .ok (.iconst 2, 1) := by decide +kernel
theorem dX8_waterBy_64 : decode cX8_waterBy 64 = .ok (.aload_n 0, 1) := by decide +kernel
theorem dX8_waterBy_65 : decode cX8_waterBy 65 = .ok (.getfield 17, 3) := by decide +kernel
theorem dX8_waterBy_68 : decode cX8_waterBy 68 = .ok (.iload 5, 2) := by decide +kernel
theorem dX8_waterBy_70 : decode cX8_waterBy 70 = .ok (.iaload, 1) := by decide +kernel
theorem dX8_waterBy_71 : decode cX8_waterBy 71 = .ok (.imul, 1) := by decide +kernel
theorem dX8_waterBy_72 : decode cX8_waterBy 72 = .ok (.goto 5, 3) := by decide +kernel
theorem dX8_waterBy_75 : decode cX8_waterBy 75 = .ok (.iload 6, 2) := by decide +kernel
theorem dX8_waterBy_77 : decode cX8_waterBy 77 = .ok (.aload_n 0, 1) := by decide +kernel
theorem dX8_waterBy_78 : decode cX8_waterBy 78 = .ok (.getfield 41, 3) := by decide +kernel
theorem dX8_waterBy_81 : decode cX8_waterBy 81 = .ok (.iconst 2, 1) := by decide +kernel
theorem dX8_waterBy_82 : decode cX8_waterBy 82 = .ok (.iload 5, 2) := by decide +kernel
theorem dX8_waterBy_84 : decode cX8_waterBy 84 = .ok (.iadd, 1) := by decide +kernel
theorem dX8_waterBy_85 : decode cX8_waterBy 85 = .ok (.iaload, 1) := by decide +kernel
theorem dX8_waterBy_86 : decode cX8_waterBy 86 = .ok (.isub, 1) := by decide +kernel
theorem dX8_waterBy_87 : decode cX8_waterBy 87 = .ok (.iadd, 1) := by decide +kernel
theorem dX8_waterBy_88 : decode cX8_waterBy 88 = .ok (.istore_n 3, 1) := by decide +kernel
theorem dX8_waterBy_89 : decode cX8_waterBy 89 = .ok (.iinc 4 1, 3) := by decide +kernel
theorem dX8_waterBy_92 : decode cX8_waterBy 92 = .ok (.goto (-83), 3) := by decide +kernel
theorem dX8_waterBy_95 : decode cX8_waterBy 95 = .ok (.iload_n 3, 1) := by decide +kernel
theorem dX8_waterBy_96 : decode cX8_waterBy 96 = .ok (.ireturn, 1) := by decide +kernel
theorem dX8_bitsIn_0 : decode cX8_bitsIn 0 = .ok (.iconst 0, 1) := by decide +kernel
theorem dX8_bitsIn_1 : decode cX8_bitsIn 1 = .ok (.istore_n 1, 1) := by decide +kernel
theorem dX8_bitsIn_2 : decode cX8_bitsIn 2 = .ok (.iconst 0, 1) := by decide +kernel
theorem dX8_bitsIn_3 : decode cX8_bitsIn 3 = .ok (.istore_n 2, 1) := by decide +kernel
theorem dX8_bitsIn_4 : decode cX8_bitsIn 4 = .ok (.iload_n 2, 1) := by decide +kernel
theorem dX8_bitsIn_5 : decode cX8_bitsIn 5 = .ok (.bipush 6, 2) := by decide +kernel
theorem dX8_bitsIn_7 : decode cX8_bitsIn 7 = .ok (.if_icmp .ge 17, 3) := by decide +kernel
theorem dX8_bitsIn_10 : decode cX8_bitsIn 10 = .ok (.iload_n 1, 1) := by decide +kernel
theorem dX8_bitsIn_11 : decode cX8_bitsIn 11 = .ok (.iload_n 0, 1) := by decide +kernel
theorem dX8_bitsIn_12 : decode cX8_bitsIn 12 = .ok (.iload_n 2, 1) := by decide +kernel
theorem dX8_bitsIn_13 : decode cX8_bitsIn 13 = .ok (.ishr, 1) := by decide +kernel
theorem dX8_bitsIn_14 : decode cX8_bitsIn 14 = .ok (.iconst 1, 1) := by decide +kernel
theorem dX8_bitsIn_15 : decode cX8_bitsIn 15 = .ok (.iand, 1) := by decide +kernel
theorem dX8_bitsIn_16 : decode cX8_bitsIn 16 = .ok (.iadd, 1) := by decide +kernel
theorem dX8_bitsIn_17 : decode cX8_bitsIn 17 = .ok (.istore_n 1, 1) := by decide +kernel
theorem dX8_bitsIn_18 : decode cX8_bitsIn 18 = .ok (.iinc 2 1, 3) := by decide +kernel
theorem dX8_bitsIn_21 : decode cX8_bitsIn 21 = .ok (.goto (-17), 3) := by decide +kernel
theorem dX8_bitsIn_24 : decode cX8_bitsIn 24 = .ok (.iload_n 1, 1) := by decide +kernel
theorem dX8_bitsIn_25 : decode cX8_bitsIn 25 = .ok (.ireturn, 1) := by decide +kernel
set_option maxRecDepth 20000 in
theorem ggX8_order_X8_in : GoodIn wsX8_order wsX8_in := goodIn_r _ [6] (by decide +kernel) (by decide +kernel)
set_option maxRecDepth 20000 in
theorem gX8_order_X8_in : GoodIn wsX8_order (va_wsS RX8 66 yX8_in wsX8_in) := goodIn_app (goodIn_of _ (by decide +kernel)) ggX8_order_X8_in
set_option maxRecDepth 20000 in
theorem ggX8_order_X8_hanging : GoodIn wsX8_order wsX8_hanging := goodIn_r _ [10, 11, 12, 30, 31, 32, 33, 34, 35, 36, 37, 38, 39, 40, 41, 42, 43, 44, 45, 46, 47, 48, 49, 50, 51, 52, 53, 54, 55] (by decide +kernel) (by decide +kernel)
set_option maxRecDepth 20000 in
theorem gX8_order_X8_hanging : GoodIn wsX8_order (wsV RX8 150 RX8 yX8_hanging wsX8_hanging) := goodIn_app (goodIn_of _ (by decide +kernel)) ggX8_order_X8_hanging
set_option maxRecDepth 20000 in
theorem ggX8_order_X8_bitsIn : GoodIn wsX8_order wsX8_bitsIn := goodIn_r _ [15] (by decide +kernel) (by decide +kernel)
set_option maxRecDepth 20000 in
theorem gX8_order_X8_bitsIn : GoodIn wsX8_order (va_wsS RX8 153 yX8_bitsIn wsX8_bitsIn) := goodIn_app (goodIn_of _ (by decide +kernel)) ggX8_order_X8_bitsIn
set_option maxRecDepth 20000 in
theorem ggX8_order_X8_isRow : GoodIn wsX8_order wsX8_isRow := goodIn_r _ [19, 2, 30, 31, 32, 33, 34, 35, 36, 37, 38, 39, 40, 41, 42, 43, 44, 45, 46, 47, 48, 49, 50, 51, 52, 53, 54, 55] (by decide +kernel) (by decide +kernel)
set_option maxRecDepth 20000 in
theorem gX8_order_X8_isRow : GoodIn wsX8_order (wsV RX8 156 RX8 yX8_isRow wsX8_isRow) := goodIn_app (goodIn_of _ (by decide +kernel)) ggX8_order_X8_isRow
set_option maxRecDepth 20000 in
theorem ggX8_order_X8_waterBy : GoodIn wsX8_order wsX8_waterBy := goodIn_r _ [23, 2, 12, 24, 25, 26, 27, 28, 5, 29, 11, 30, 31, 32, 33, 34, 35, 36, 37, 38, 39, 40, 41, 42, 43, 44, 45, 46, 47, 48, 49, 50, 51, 52, 53, 54, 55] (by decide +kernel) (by decide +kernel)
set_option maxRecDepth 20000 in
theorem gX8_order_X8_waterBy : GoodIn wsX8_order (wsV RX8 159 RX8 yX8_waterBy wsX8_waterBy) := goodIn_app (goodIn_of _ (by decide +kernel)) ggX8_order_X8_waterBy
theorem dX8_order_0 : decode cX8_order 0 = .ok (.iload_n 1, 1) := by decide +kernel
theorem dX8_order_1 : decode cX8_order 1 = .ok (.iconst 1, 1) := by decide +kernel
theorem dX8_order_2 : decode cX8_order 2 = .ok (.bipush 9, 2) := by decide +kernel
theorem dX8_order_4 : decode cX8_order 4 = .ok (.invokestatic 66, 3) := by decide +kernel
theorem dX8_order_7 : decode cX8_order 7 = .ok (.ifCond .eq 12, 3) := by decide +kernel
theorem dX8_order_10 : decode cX8_order 10 = .ok (.iload_n 2, 1) := by decide +kernel
theorem dX8_order_11 : decode cX8_order 11 = .ok (.iconst (-1), 1) := by decide +kernel
theorem dX8_order_12 : decode cX8_order 12 = .ok (.iconst 5, 1) := by decide +kernel
theorem dX8_order_13 : decode cX8_order 13 = .ok (.invokestatic 66, 3) := by decide +kernel
theorem dX8_order_16 : decode cX8_order 16 = .ok (.ifCond .ne 5, 3) := by decide +kernel
theorem dX8_order_19 : decode cX8_order 19 = .ok (.iconst (-1), 1) := by decide +kernel
theorem dX8_order_20 : decode cX8_order 20 = .ok (.ireturn, 1) := by decide +kernel
theorem dX8_order_21 : decode cX8_order 21 = .ok (.aload_n 0, 1) := by decide +kernel
theorem dX8_order_22 : decode cX8_order 22 = .ok (.invokevirtual 150, 3) := by decide +kernel
theorem dX8_order_25 : decode cX8_order 25 = .ok (.istore_n 3, 1) := by decide +kernel
theorem dX8_order_26 : decode cX8_order 26 = .ok (.iload_n 3, 1) := by decide +kernel
theorem dX8_order_27 : decode cX8_order 27 = .ok (.invokestatic 153, 3) := by decide +kernel
theorem dX8_order_30 : decode cX8_order 30 = .ok (.istore 4, 2) := by decide +kernel
theorem dX8_order_32 : decode cX8_order 32 = .ok (.iconst 1, 1) := by decide +kernel
theorem dX8_order_33 : decode cX8_order 33 = .ok (.istore 5, 2) := by decide +kernel
theorem dX8_order_35 : decode cX8_order 35 = .ok (.iconst 0, 1) := by decide +kernel
theorem dX8_order_36 : decode cX8_order 36 = .ok (.istore 6, 2) := by decide +kernel
theorem dX8_order_38 : decode cX8_order 38 = .ok (.iload 6, 2) := by decide +kernel
theorem dX8_order_40 : decode cX8_order 40 = .ok (.iload 4, 2) := by decide +kernel
theorem dX8_order_42 : decode cX8_order 42 = .ok (.if_icmp .ge 16, 3) := by decide +kernel
theorem dX8_order_45 : decode cX8_order 45 = .ok (.iload 5, 2) := by decide +kernel
theorem dX8_order_47 : decode cX8_order 47 = .ok (.bipush 6, 2) := by decide +kernel
theorem dX8_order_49 : decode cX8_order 49 = .ok (.imul, 1) := by decide +kernel
theorem dX8_order_50 : decode cX8_order 50 = .ok (.istore 5, 2) := by decide +kernel
theorem dX8_order_52 : decode cX8_order 52 = .ok (.iinc 6 1, 3) := by decide +kernel
theorem dX8_order_55 : decode cX8_order 55 = .ok (.goto (-17), 3) := by decide +kernel
theorem dX8_order_58 : decode cX8_order 58 = .ok (.bipush (-9), 2) := by decide +kernel
theorem dX8_order_60 : decode cX8_order 60 = .ok (.istore 6, 2) := by decide +kernel
theorem dX8_order_62 : decode cX8_order 62 = .ok (.iconst 0, 1) := by decide +kernel
theorem dX8_order_63 : decode cX8_order 63 = .ok (.istore 7, 2) := by decide +kernel
theorem dX8_order_65 : decode cX8_order 65 = .ok (.iload 7, 2) := by decide +kernel
theorem dX8_order_67 : decode cX8_order 67 = .ok (.iload 5, 2) := by decide +kernel
theorem dX8_order_69 : decode cX8_order 69 = .ok (.if_icmp .ge 78, 3) := by decide +kernel
theorem dX8_order_72 : decode cX8_order 72 = .ok (.aload_n 0, 1) := by decide +kernel
theorem dX8_order_73 : decode cX8_order 73 = .ok (.iload 7, 2) := by decide +kernel
theorem dX8_order_75 : decode cX8_order 75 = .ok (.iload 4, 2) := by decide +kernel
theorem dX8_order_77 : decode cX8_order 77 = .ok (.iload_n 3, 1) := by decide +kernel
theorem dX8_order_78 : decode cX8_order 78 = .ok (.invokevirtual 156, 3) := by decide +kernel
theorem dX8_order_81 : decode cX8_order 81 = .ok (.ifCond .eq 60, 3) := by decide +kernel
theorem dX8_order_84 : decode cX8_order 84 = .ok (.aload_n 0, 1) := by decide +kernel
theorem dX8_order_85 : decode cX8_order 85 = .ok (.iload 4, 2) := by decide +kernel
theorem dX8_order_87 : decode cX8_order 87 = .ok (.iload_n 1, 1) := by decide +kernel
theorem dX8_order_88 : decode cX8_order 88 = .ok (.invokevirtual 159, 3) := by decide +kernel
theorem dX8_order_91 : decode cX8_order 91 = .ok (.istore 8, 2) := by decide +kernel
theorem dX8_order_93 : decode cX8_order 93 = .ok (.iload 6, 2) := by decide +kernel
theorem dX8_order_95 : decode cX8_order 95 = .ok (.bipush (-9), 2) := by decide +kernel
theorem dX8_order_97 : decode cX8_order 97 = .ok (.if_icmp .eq 10, 3) := by decide +kernel
theorem dX8_order_100 : decode cX8_order 100 = .ok (.iload 8, 2) := by decide +kernel
theorem dX8_order_102 : decode cX8_order 102 = .ok (.iload 6, 2) := by decide +kernel
theorem dX8_order_104 : decode cX8_order 104 = .ok (.if_icmp .ge 37, 3) := by decide +kernel
theorem dX8_order_107 : decode cX8_order 107 = .ok (.iload 8, 2) := by decide +kernel
theorem dX8_order_109 : decode cX8_order 109 = .ok (.istore 6, 2) := by decide +kernel
theorem dX8_order_111 : decode cX8_order 111 = .ok (.iconst 0, 1) := by decide +kernel
theorem dX8_order_112 : decode cX8_order 112 = .ok (.istore 9, 2) := by decide +kernel
theorem dX8_order_114 : decode cX8_order 114 = .ok (.iload 9, 2) := by decide +kernel
theorem dX8_order_116 : decode cX8_order 116 = .ok (.iload 4, 2) := by decide +kernel
theorem dX8_order_118 : decode cX8_order 118 = .ok (.if_icmp .ge 23, 3) := by decide +kernel
theorem dX8_order_121 : decode cX8_order 121 = .ok (.aload_n 0, 1) := by decide +kernel
theorem dX8_order_122 : decode cX8_order 122 = .ok (.getfield 57, 3) := by decide +kernel
theorem dX8_order_125 : decode cX8_order 125 = .ok (.iload 9, 2) := by decide +kernel
theorem dX8_order_127 : decode cX8_order 127 = .ok (.aload_n 0, 1) := by decide +kernel
theorem dX8_order_128 : decode cX8_order 128 = .ok (.getfield 54, 3) := by decide +kernel
theorem dX8_order_131 : decode cX8_order 131 = .ok (.iload 9, 2) := by decide +kernel
theorem dX8_order_133 : decode cX8_order 133 = .ok (.iaload, 1) := by decide +kernel
theorem dX8_order_134 : decode cX8_order 134 = .ok (.iastore, 1) := by decide +kernel
theorem dX8_order_135 : decode cX8_order 135 = .ok (.iinc 9 1, 3) := by decide +kernel
theorem dX8_order_138 : decode cX8_order 138 = .ok (.goto (-24), 3) := by decide +kernel
theorem dX8_order_141 : decode cX8_order 141 = .ok (.iinc 7 1, 3) := by decide +kernel
theorem dX8_order_144 : decode cX8_order 144 = .ok (.goto (-79), 3) := by decide +kernel
theorem dX8_order_147 : decode cX8_order 147 = .ok (.iload_n 2, 1) := by decide +kernel
theorem dX8_order_148 : decode cX8_order 148 = .ok (.iconst (-1), 1) := by decide +kernel
theorem dX8_order_149 : decode cX8_order 149 = .ok (.if_icmp .ne 8, 3) := by decide +kernel
theorem dX8_order_152 : decode cX8_order 152 = .ok (.iload 6, 2) := by decide +kernel
theorem dX8_order_154 : decode cX8_order 154 = .ok (.goto 20, 3) := by decide +kernel
theorem dX8_order_157 : decode cX8_order 157 = .ok (.iload_n 2, 1) := by decide +kernel
theorem dX8_order_158 : decode cX8_order 158 = .ok (.iload 4, 2) := by decide +kernel
theorem dX8_order_160 : decode cX8_order 160 = .ok (.if_icmp .ge 12, 3) := by decide +kernel
theorem dX8_order_163 : decode cX8_order 163 = .ok (.aload_n 0, 1) := by decide +kernel
theorem dX8_order_164 : decode cX8_order 164 = .ok (.getfield 57, 3) := by decide +kernel
theorem dX8_order_167 : decode cX8_order 167 = .ok (.iload_n 2, 1) := by decide +kernel
theorem dX8_order_168 : decode cX8_order 168 = .ok (.iaload, 1) := by decide +kernel
theorem dX8_order_169 : decode cX8_order 169 = .ok (.goto 5, 3) := by decide +kernel
theorem dX8_order_172 : decode cX8_order 172 = .ok (.bipush (-9), 2) := by decide +kernel
theorem dX8_order_174 : decode cX8_order 174 = .ok (.ireturn, 1) := by decide +kernel
theorem dX8_common_0 : decode cX8_common 0 = .ok (.lload_n 0, 1) := by decide +kernel
theorem dX8_common_1 : decode cX8_common 1 = .ok (.lstore 4, 2) := by decide +kernel
theorem dX8_common_3 : decode cX8_common 3 = .ok (.lload_n 2, 1) := by decide +kernel
theorem dX8_common_4 : decode cX8_common 4 = .ok (.lstore 6, 2) := by decide +kernel
theorem dX8_common_6 : decode cX8_common 6 = .ok (.lload 6, 2) := by decide +kernel
theorem dX8_common_8 : decode cX8_common 8 = .ok (.lconst 0, 1) := by decide +kernel
theorem dX8_common_9 : decode cX8_common 9 = .ok (.lcmp, 1) := by decide +kernel
theorem dX8_common_10 : decode cX8_common 10 = .ok (.ifCond .eq 21, 3) := by decide +kernel
theorem dX8_common_13 : decode cX8_common 13 = .ok (.lload 4, 2) := by decide +kernel
theorem dX8_common_15 : decode cX8_common 15 = .ok (.lload 6, 2) := by decide +kernel
theorem dX8_common_17 : decode cX8_common 17 = .ok (.lrem, 1) := by decide +kernel
theorem dX8_common_18 : decode cX8_common 18 = .ok (.lstore 8, 2) := by decide +kernel
theorem dX8_common_20 : decode cX8_common 20 = .ok (.lload 6, 2) := by decide +kernel
theorem dX8_common_22 : decode cX8_common 22 = .ok (.lstore 4, 2) := by decide +kernel
theorem dX8_common_24 : decode cX8_common 24 = .ok (.lload 8, 2) := by decide +kernel
theorem dX8_common_26 : decode cX8_common 26 = .ok (.lstore 6, 2) := by decide +kernel
theorem dX8_common_28 : decode cX8_common 28 = .ok (.goto (-22), 3) := by decide +kernel
theorem dX8_common_31 : decode cX8_common 31 = .ok (.lload 4, 2) := by decide +kernel
theorem dX8_common_33 : decode cX8_common 33 = .ok (.lreturn, 1) := by decide +kernel
theorem dX8_isDry_0 : decode cX8_isDry 0 = .ok (.iconst 1, 1) := by decide +kernel
theorem dX8_isDry_1 : decode cX8_isDry 1 = .ok (.istore_n 3, 1) := by decide +kernel
theorem dX8_isDry_2 : decode cX8_isDry 2 = .ok (.iconst 0, 1) := by decide +kernel
theorem dX8_isDry_3 : decode cX8_isDry 3 = .ok (.istore 4, 2) := by decide +kernel
theorem dX8_isDry_5 : decode cX8_isDry 5 = .ok (.iload 4, 2) := by decide +kernel
theorem dX8_isDry_7 : decode cX8_isDry 7 = .ok (.aload_n 0, 1) := by decide +kernel
theorem dX8_isDry_8 : decode cX8_isDry 8 = .ok (.getfield 13, 3) := by decide +kernel
theorem dX8_isDry_11 : decode cX8_isDry 11 = .ok (.iconst 0, 1) := by decide +kernel
theorem dX8_isDry_12 : decode cX8_isDry 12 = .ok (.iaload, 1) := by decide +kernel
theorem dX8_isDry_13 : decode cX8_isDry 13 = .ok (.if_icmp .ge 42, 3) := by decide +kernel
theorem dX8_isDry_16 : decode cX8_isDry 16 = .ok (.iload_n 3, 1) := by decide +kernel
theorem dX8_isDry_17 : decode cX8_isDry 17 = .ok (.ifCond .eq 30, 3) := by decide +kernel
theorem dX8_isDry_20 : decode cX8_isDry 20 = .ok (.iload_n 2, 1) := by decide +kernel
theorem dX8_isDry_21 : decode cX8_isDry 21 = .ok (.iload 4, 2) := by decide +kernel
theorem dX8_isDry_23 : decode cX8_isDry 23 = .ok (.ishr, 1) := by decide +kernel
theorem dX8_isDry_24 : decode cX8_isDry 24 = .ok (.iconst 1, 1) := by decide +kernel
theorem dX8_isDry_25 : decode cX8_isDry 25 = .ok (.iand, 1) := by decide +kernel
theorem dX8_isDry_26 : decode cX8_isDry 26 = .ok (.ifCond .eq 17, 3) := by decide +kernel
theorem dX8_isDry_29 : decode cX8_isDry 29 = .ok (.aload_n 0, 1) := by decide +kernel
theorem dX8_isDry_30 : decode cX8_isDry 30 = .ok (.getfield 41, 3) := by decide +kernel
theorem dX8_isDry_33 : decode cX8_isDry 33 = .ok (.iload_n 1, 1) := by decide +kernel
theorem dX8_isDry_34 : decode cX8_isDry 34 = .ok (.iconst 2, 1) := by decide +kernel
theorem dX8_isDry_35 : decode cX8_isDry 35 = .ok (.iadd, 1) := by decide +kernel
theorem dX8_isDry_36 : decode cX8_isDry 36 = .ok (.iload 4, 2) := by decide +kernel
theorem dX8_isDry_38 : decode cX8_isDry 38 = .ok (.iadd, 1) := by decide +kernel
theorem dX8_isDry_39 : decode cX8_isDry 39 = .ok (.iaload, 1) := by decide +kernel
theorem dX8_isDry_40 : decode cX8_isDry 40 = .ok (.ifCond .ne 7, 3) := by decide +kernel
theorem dX8_isDry_43 : decode cX8_isDry 43 = .ok (.iconst 1, 1) := by decide +kernel
theorem dX8_isDry_44 : decode cX8_isDry 44 = .ok (.goto 4, 3) := by decide +kernel
theorem dX8_isDry_47 : decode cX8_isDry 47 = .ok (.iconst 0, 1) := by decide +kernel
theorem dX8_isDry_48 : decode cX8_isDry 48 = .ok (.istore_n 3, 1) := by decide +kernel
theorem dX8_isDry_49 : decode cX8_isDry 49 = .ok (.iinc 4 1, 3) := by decide +kernel
theorem dX8_isDry_52 : decode cX8_isDry 52 = .ok (.goto (-47), 3) := by decide +kernel
theorem dX8_isDry_55 : decode cX8_isDry 55 = .ok (.iload_n 3, 1) := by decide +kernel
theorem dX8_isDry_56 : decode cX8_isDry 56 = .ok (.ireturn, 1) := by decide +kernel
set_option maxRecDepth 20000 in
theorem ggX8_odds_X8_in : GoodIn wsX8_odds wsX8_in := goodIn_r _ [7] (by decide +kernel) (by decide +kernel)
set_option maxRecDepth 20000 in
theorem gX8_odds_X8_in : GoodIn wsX8_odds (va_wsS RX8 66 yX8_in wsX8_in) := goodIn_app (goodIn_of _ (by decide +kernel)) ggX8_odds_X8_in
set_option maxRecDepth 20000 in
theorem ggX8_odds_X8_hanging : GoodIn wsX8_odds wsX8_hanging := goodIn_r _ [11, 12, 3, 42, 43, 44, 45, 46, 47, 48, 49, 50, 51, 52, 53, 54, 55, 56, 57, 58, 59, 60, 61, 62, 63, 64, 65, 66, 67] (by decide +kernel) (by decide +kernel)
set_option maxRecDepth 20000 in
theorem gX8_odds_X8_hanging : GoodIn wsX8_odds (wsV RX8 150 RX8 yX8_hanging wsX8_hanging) := goodIn_app (goodIn_of _ (by decide +kernel)) ggX8_odds_X8_hanging
set_option maxRecDepth 20000 in
theorem ggX8_odds_X8_copy : GoodIn wsX8_odds wsX8_copy := goodIn_r _ [16, 3, 42, 43, 44, 45, 46, 47, 48, 49, 50, 51, 52, 53, 54, 55, 56, 57, 58, 59, 60, 61, 62, 63, 64, 65, 66, 67] (by decide +kernel) (by decide +kernel)
set_option maxRecDepth 20000 in
theorem gX8_odds_X8_copy : GoodIn wsX8_odds (wsV RX8 143 RX8 yX8_copy wsX8_copy) := goodIn_app (goodIn_of _ (by decide +kernel)) ggX8_odds_X8_copy
set_option maxRecDepth 20000 in
theorem ggX8_odds_X8_isDry : GoodIn wsX8_odds wsX8_isDry := goodIn_r _ [20, 12, 3, 42, 43, 44, 45, 46, 47, 48, 49, 50, 51, 52, 53, 54, 55, 56, 57, 58, 59, 60, 61, 62, 63, 64, 65, 66, 67] (by decide +kernel) (by decide +kernel)
set_option maxRecDepth 20000 in
theorem gX8_odds_X8_isDry : GoodIn wsX8_odds (wsV RX8 166 RX8 yX8_isDry wsX8_isDry) := goodIn_app (goodIn_of _ (by decide +kernel)) ggX8_odds_X8_isDry
set_option maxRecDepth 20000 in
theorem ggX8_odds_X8_skyAt : GoodIn wsX8_odds wsX8_skyAt := goodIn_r _ [24, 25, 26, 42, 43, 44, 45, 46, 47, 48, 49, 50, 51, 52, 53, 54, 55, 56, 57, 58, 59, 60, 61, 62, 63, 64, 65, 66, 67] (by decide +kernel) (by decide +kernel)
set_option maxRecDepth 20000 in
theorem gX8_odds_X8_skyAt : GoodIn wsX8_odds (wsV RX8 126 RX8 yX8_skyAt wsX8_skyAt) := goodIn_app (goodIn_of _ (by decide +kernel)) ggX8_odds_X8_skyAt
set_option maxRecDepth 20000 in
theorem ggX8_odds_X8_goStep : GoodIn wsX8_odds wsX8_goStep := goodIn_r _ [30, 3, 12, 21, 22, 23, 6, 24, 25, 26, 31, 32, 33, 34, 35, 36, 37, 38, 42, 43, 44, 45, 46, 47, 48, 49, 50, 51, 52, 53, 54, 55, 56, 57, 58, 59, 60, 61, 62, 63, 64, 65, 66, 67] (by decide +kernel) (by decide +kernel)
set_option maxRecDepth 20000 in
theorem gX8_odds_X8_goStep : GoodIn wsX8_odds (wsV RX8 137 RX8 yX8_goStep wsX8_goStep) := goodIn_app (goodIn_of _ (by decide +kernel)) ggX8_odds_X8_goStep
set_option maxRecDepth 20000 in
theorem ggX8_odds_X8_common : GoodIn wsX8_odds wsX8_common := goodIn_r _ [41] (by decide +kernel) (by decide +kernel)
set_option maxRecDepth 20000 in
theorem gX8_odds_X8_common : GoodIn wsX8_odds (va_wsS RX8 170 yX8_common wsX8_common) := goodIn_app (goodIn_of _ (by decide +kernel)) ggX8_odds_X8_common
theorem dX8_odds_0 : decode cX8_odds 0 = .ok (.iload_n 2, 1) := by decide +kernel
theorem dX8_odds_1 : decode cX8_odds 1 = .ok (.iconst 1, 1) := by decide +kernel
theorem dX8_odds_2 : decode cX8_odds 2 = .ok (.bipush 9, 2) := by decide +kernel
theorem dX8_odds_4 : decode cX8_odds 4 = .ok (.invokestatic 66, 3) := by decide +kernel
theorem dX8_odds_7 : decode cX8_odds 7 = .ok (.ifCond .eq 21, 3) := by decide +kernel
theorem dX8_odds_10 : decode cX8_odds 10 = .ok (.iload_n 1, 1) := by decide +kernel
theorem dX8_odds_11 : decode cX8_odds 11 = .ok (.iconst 0, 1) := by decide +kernel
theorem dX8_odds_12 : decode cX8_odds 12 = .ok (.iload_n 2, 1) := by decide +kernel
theorem dX8_odds_13 : decode cX8_odds 13 = .ok (.invokestatic 66, 3) := by decide +kernel
theorem dX8_odds_16 : decode cX8_odds 16 = .ok (.ifCond .eq 12, 3) := by decide +kernel
theorem dX8_odds_19 : decode cX8_odds 19 = .ok (.iload_n 3, 1) := by decide +kernel
theorem dX8_odds_20 : decode cX8_odds 20 = .ok (.iconst 0, 1) := by decide +kernel
theorem dX8_odds_21 : decode cX8_odds 21 = .ok (.iconst 1, 1) := by decide +kernel
theorem dX8_odds_22 : decode cX8_odds 22 = .ok (.invokestatic 66, 3) := by decide +kernel
theorem dX8_odds_25 : decode cX8_odds 25 = .ok (.ifCond .ne 7, 3) := by decide +kernel
theorem dX8_odds_28 : decode cX8_odds 28 = .ok (.ldc2_w 162, 3) := by decide +kernel
theorem dX8_odds_31 : decode cX8_odds 31 = .ok (.lreturn, 1) := by decide +kernel
theorem dX8_odds_32 : decode cX8_odds 32 = .ok (.aload_n 0, 1) := by decide +kernel
theorem dX8_odds_33 : decode cX8_odds 33 = .ok (.invokevirtual 150, 3) := by decide +kernel
theorem dX8_odds_36 : decode cX8_odds 36 = .ok (.istore 4, 2) := by decide +kernel
theorem dX8_odds_38 : decode cX8_odds 38 = .ok (.iload 4, 2) := by decide +kernel
theorem dX8_odds_40 : decode cX8_odds 40 = .ok (.ifCond .ne 7, 3) := by decide +kernel
theorem dX8_odds_43 : decode cX8_odds 43 = .ok (.ldc2_w 164, 3) := by decide +kernel
theorem dX8_odds_46 : decode cX8_odds 46 = .ok (.lreturn, 1) := by decide +kernel
theorem dX8_odds_47 : decode cX8_odds 47 = .ok (.aload_n 0, 1) := by decide +kernel
theorem dX8_odds_48 : decode cX8_odds 48 = .ok (.iconst 0, 1) := by decide +kernel
theorem dX8_odds_49 : decode cX8_odds 49 = .ok (.bipush 26, 2) := by decide +kernel
theorem dX8_odds_51 : decode cX8_odds 51 = .ok (.invokevirtual 143, 3) := by decide +kernel
theorem dX8_odds_54 : decode cX8_odds 54 = .ok (.iconst 0, 1) := by decide +kernel
theorem dX8_odds_55 : decode cX8_odds 55 = .ok (.istore 5, 2) := by decide +kernel
theorem dX8_odds_57 : decode cX8_odds 57 = .ok (.iconst 0, 1) := by decide +kernel
theorem dX8_odds_58 : decode cX8_odds 58 = .ok (.istore 6, 2) := by decide +kernel
theorem dX8_odds_60 : decode cX8_odds 60 = .ok (.iload 5, 2) := by decide +kernel
theorem dX8_odds_62 : decode cX8_odds 62 = .ok (.bipush 99, 2) := by decide +kernel
theorem dX8_odds_64 : decode cX8_odds 64 = .ok (.if_icmp .ge 53, 3) := by decide +kernel
theorem dX8_odds_67 : decode cX8_odds 67 = .ok (.aload_n 0, 1) := by decide +kernel
theorem dX8_odds_68 : decode cX8_odds 68 = .ok (.bipush 26, 2) := by decide +kernel
theorem dX8_odds_70 : decode cX8_odds 70 = .ok (.iload 4, 2) := by decide +kernel
theorem dX8_odds_72 : decode cX8_odds 72 = .ok (.invokevirtual 166, 3) := by decide +kernel
theorem dX8_odds_75 : decode cX8_odds 75 = .ok (.ifCond .ne 42, 3) := by decide +kernel
theorem dX8_odds_78 : decode cX8_odds 78 = .ok (.iload 6, 2) := by decide +kernel
theorem dX8_odds_80 : decode cX8_odds 80 = .ok (.ifCond .ne 17, 3) := by decide +kernel
theorem dX8_odds_83 : decode cX8_odds 83 = .ok (.aload_n 0, 1) := by decide +kernel
theorem dX8_odds_84 : decode cX8_odds 84 = .ok (.aload_n 0, 1) := by decide +kernel
theorem dX8_odds_85 : decode cX8_odds 85 = .ok (.getfield 41, 3) := by decide +kernel
theorem dX8_odds_88 : decode cX8_odds 88 = .ok (.bipush 26, 2) := by decide +kernel
theorem dX8_odds_90 : decode cX8_odds 90 = .ok (.iaload, 1) := by decide +kernel
theorem dX8_odds_91 : decode cX8_odds 91 = .ok (.invokevirtual 126, 3) := by decide +kernel
theorem dX8_odds_94 : decode cX8_odds 94 = .ok (.ifCond .ge 7, 3) := by decide +kernel
theorem dX8_odds_97 : decode cX8_odds 97 = .ok (.iconst 1, 1) := by decide +kernel
theorem dX8_odds_98 : decode cX8_odds 98 = .ok (.goto 4, 3) := by decide +kernel
theorem dX8_odds_101 : decode cX8_odds 101 = .ok (.iconst 0, 1) := by decide +kernel
theorem dX8_odds_102 : decode cX8_odds 102 = .ok (.istore 6, 2) := by decide +kernel
theorem dX8_odds_104 : decode cX8_odds 104 = .ok (.aload_n 0, 1) := by decide +kernel
theorem dX8_odds_105 : decode cX8_odds 105 = .ok (.bipush 26, 2) := by decide +kernel
theorem dX8_odds_107 : decode cX8_odds 107 = .ok (.invokevirtual 137, 3) := by decide +kernel
theorem dX8_odds_110 : decode cX8_odds 110 = .ok (.pop, 1) := by decide +kernel
theorem dX8_odds_111 : decode cX8_odds 111 = .ok (.iinc 5 1, 3) := by decide +kernel
theorem dX8_odds_114 : decode cX8_odds 114 = .ok (.goto (-54), 3) := by decide +kernel
theorem dX8_odds_117 : decode cX8_odds 117 = .ok (.iload 6, 2) := by decide +kernel
theorem dX8_odds_119 : decode cX8_odds 119 = .ok (.ifCond .ne 14, 3) := by decide +kernel
theorem dX8_odds_122 : decode cX8_odds 122 = .ok (.aload_n 0, 1) := by decide +kernel
theorem dX8_odds_123 : decode cX8_odds 123 = .ok (.bipush 26, 2) := by decide +kernel
theorem dX8_odds_125 : decode cX8_odds 125 = .ok (.iload 4, 2) := by decide +kernel
theorem dX8_odds_127 : decode cX8_odds 127 = .ok (.invokevirtual 166, 3) := by decide +kernel
theorem dX8_odds_130 : decode cX8_odds 130 = .ok (.ifCond .ne 6, 3) := by decide +kernel
theorem dX8_odds_133 : decode cX8_odds 133 = .ok (.iload_n 3, 1) := by decide +kernel
theorem dX8_odds_134 : decode cX8_odds 134 = .ok (.i2l, 1) := by decide +kernel
theorem dX8_odds_135 : decode cX8_odds 135 = .ok (.lreturn, 1) := by decide +kernel
theorem dX8_odds_136 : decode cX8_odds 136 = .ok (.iload 5, 2) := by decide +kernel
theorem dX8_odds_138 : decode cX8_odds 138 = .ok (.bipush 18, 2) := by decide +kernel
theorem dX8_odds_140 : decode cX8_odds 140 = .ok (.if_icmp .le 7, 3) := by decide +kernel
theorem dX8_odds_143 : decode cX8_odds 143 = .ok (.ldc2_w 164, 3) := by decide +kernel
theorem dX8_odds_146 : decode cX8_odds 146 = .ok (.lreturn, 1) := by decide +kernel
theorem dX8_odds_147 : decode cX8_odds 147 = .ok (.lconst 1, 1) := by decide +kernel
theorem dX8_odds_148 : decode cX8_odds 148 = .ok (.lstore 7, 2) := by decide +kernel
theorem dX8_odds_150 : decode cX8_odds 150 = .ok (.lconst 1, 1) := by decide +kernel
theorem dX8_odds_151 : decode cX8_odds 151 = .ok (.lstore 9, 2) := by decide +kernel
theorem dX8_odds_153 : decode cX8_odds 153 = .ok (.iconst 0, 1) := by decide +kernel
theorem dX8_odds_154 : decode cX8_odds 154 = .ok (.istore 11, 2) := by decide +kernel
theorem dX8_odds_156 : decode cX8_odds 156 = .ok (.iload 11, 2) := by decide +kernel
theorem dX8_odds_158 : decode cX8_odds 158 = .ok (.iload 5, 2) := by decide +kernel
theorem dX8_odds_160 : decode cX8_odds 160 = .ok (.if_icmp .ge 25, 3) := by decide +kernel
theorem dX8_odds_163 : decode cX8_odds 163 = .ok (.lload 7, 2) := by decide +kernel
theorem dX8_odds_165 : decode cX8_odds 165 = .ok (.iload_n 2, 1) := by decide +kernel
theorem dX8_odds_166 : decode cX8_odds 166 = .ok (.iload_n 1, 1) := by decide +kernel
theorem dX8_odds_167 : decode cX8_odds 167 = .ok (.isub, 1) := by decide +kernel
theorem dX8_odds_168 : decode cX8_odds 168 = .ok (.i2l, 1) := by decide +kernel
theorem dX8_odds_169 : decode cX8_odds 169 = .ok (.lmul, 1) := by decide +kernel
theorem dX8_odds_170 : decode cX8_odds 170 = .ok (.lstore 7, 2) := by decide +kernel
theorem dX8_odds_172 : decode cX8_odds 172 = .ok (.lload 9, 2) := by decide +kernel
theorem dX8_odds_174 : decode cX8_odds 174 = .ok (.iload_n 2, 1) := by decide +kernel
theorem dX8_odds_175 : decode cX8_odds 175 = .ok (.i2l, 1) := by decide +kernel
theorem dX8_odds_176 : decode cX8_odds 176 = .ok (.lmul, 1) := by decide +kernel
theorem dX8_odds_177 : decode cX8_odds 177 = .ok (.lstore 9, 2) := by decide +kernel
theorem dX8_odds_179 : decode cX8_odds 179 = .ok (.iinc 11 1, 3) := by decide +kernel
theorem dX8_odds_182 : decode cX8_odds 182 = .ok (.goto (-26), 3) := by decide +kernel
theorem dX8_odds_185 : decode cX8_odds 185 = .ok (.lload 7, 2) := by decide +kernel
theorem dX8_odds_187 : decode cX8_odds 187 = .ok (.lload 9, 2) := by decide +kernel
theorem dX8_odds_189 : decode cX8_odds 189 = .ok (.invokestatic 170, 3) := by decide +kernel
theorem dX8_odds_192 : decode cX8_odds 192 = .ok (.lstore 11, 2) := by decide +kernel
theorem dX8_odds_194 : decode cX8_odds 194 = .ok (.iload_n 3, 1) := by decide +kernel
theorem dX8_odds_195 : decode cX8_odds 195 = .ok (.ifCond .ne 11, 3) := by decide +kernel
theorem dX8_odds_198 : decode cX8_odds 198 = .ok (.lload 7, 2) := by decide +kernel
theorem dX8_odds_200 : decode cX8_odds 200 = .ok (.lload 11, 2) := by decide +kernel
theorem dX8_odds_202 : decode cX8_odds 202 = .ok (.ldiv, 1) := by decide +kernel
theorem dX8_odds_203 : decode cX8_odds 203 = .ok (.goto 8, 3) := by decide +kernel
theorem dX8_odds_206 : decode cX8_odds 206 = .ok (.lload 9, 2) := by decide +kernel
theorem dX8_odds_208 : decode cX8_odds 208 = .ok (.lload 11, 2) := by decide +kernel
theorem dX8_odds_210 : decode cX8_odds 210 = .ok (.ldiv, 1) := by decide +kernel
theorem dX8_odds_211 : decode cX8_odds 211 = .ok (.lreturn, 1) := by decide +kernel
set_option maxRecDepth 20000 in
theorem ggX8_roomFor_X8_in : GoodIn wsX8_roomFor wsX8_in := goodIn_r _ [6] (by decide +kernel) (by decide +kernel)
set_option maxRecDepth 20000 in
theorem gX8_roomFor_X8_in : GoodIn wsX8_roomFor (va_wsS RX8 66 yX8_in wsX8_in) := goodIn_app (goodIn_of _ (by decide +kernel)) ggX8_roomFor_X8_in
set_option maxRecDepth 20000 in
theorem ggX8_roomFor_X8_copy : GoodIn wsX8_roomFor wsX8_copy := goodIn_r _ [10, 2, 34, 35, 36, 37, 38, 39, 40, 41, 42, 43, 44, 45, 46, 47, 48, 49, 50, 51, 52, 53, 54, 55, 56, 57, 58, 59] (by decide +kernel) (by decide +kernel)
set_option maxRecDepth 20000 in
theorem gX8_roomFor_X8_copy : GoodIn wsX8_roomFor (wsV RX8 143 RX8 yX8_copy wsX8_copy) := goodIn_app (goodIn_of _ (by decide +kernel)) ggX8_roomFor_X8_copy
set_option maxRecDepth 20000 in
theorem ggX8_roomFor_X8_pieceOn : GoodIn wsX8_roomFor wsX8_pieceOn := goodIn_r _ [14, 15, 2, 34, 35, 36, 37, 38, 39, 40, 41, 42, 43, 44, 45, 46, 47, 48, 49, 50, 51, 52, 53, 54, 55, 56, 57, 58, 59] (by decide +kernel) (by decide +kernel)
set_option maxRecDepth 20000 in
theorem gX8_roomFor_X8_pieceOn : GoodIn wsX8_roomFor (wsV RX8 123 RX8 yX8_pieceOn wsX8_pieceOn) := goodIn_app (goodIn_of _ (by decide +kernel)) ggX8_roomFor_X8_pieceOn
set_option maxRecDepth 20000 in
theorem ggX8_roomFor_X8_goStep : GoodIn wsX8_roomFor wsX8_goStep := goodIn_r _ [19, 2, 15, 20, 21, 22, 5, 23, 24, 25, 26, 27, 28, 29, 30, 31, 32, 33, 34, 35, 36, 37, 38, 39, 40, 41, 42, 43, 44, 45, 46, 47, 48, 49, 50, 51, 52, 53, 54, 55, 56, 57, 58, 59] (by decide +kernel) (by decide +kernel)
set_option maxRecDepth 20000 in
theorem gX8_roomFor_X8_goStep : GoodIn wsX8_roomFor (wsV RX8 137 RX8 yX8_goStep wsX8_goStep) := goodIn_app (goodIn_of _ (by decide +kernel)) ggX8_roomFor_X8_goStep
theorem dX8_roomFor_0 : decode cX8_roomFor 0 = .ok (.iload_n 1, 1) := by decide +kernel
theorem dX8_roomFor_1 : decode cX8_roomFor 1 = .ok (.iconst 1, 1) := by decide +kernel
theorem dX8_roomFor_2 : decode cX8_roomFor 2 = .ok (.iconst 5, 1) := by decide +kernel
theorem dX8_roomFor_3 : decode cX8_roomFor 3 = .ok (.invokestatic 66, 3) := by decide +kernel
theorem dX8_roomFor_6 : decode cX8_roomFor 6 = .ok (.ifCond .ne 5, 3) := by decide +kernel
theorem dX8_roomFor_9 : decode cX8_roomFor 9 = .ok (.iconst (-1), 1) := by decide +kernel
theorem dX8_roomFor_10 : decode cX8_roomFor 10 = .ok (.ireturn, 1) := by decide +kernel
theorem dX8_roomFor_11 : decode cX8_roomFor 11 = .ok (.aload_n 0, 1) := by decide +kernel
theorem dX8_roomFor_12 : decode cX8_roomFor 12 = .ok (.iconst 0, 1) := by decide +kernel
theorem dX8_roomFor_13 : decode cX8_roomFor 13 = .ok (.bipush 26, 2) := by decide +kernel
theorem dX8_roomFor_15 : decode cX8_roomFor 15 = .ok (.invokevirtual 143, 3) := by decide +kernel
theorem dX8_roomFor_18 : decode cX8_roomFor 18 = .ok (.iconst 0, 1) := by decide +kernel
theorem dX8_roomFor_19 : decode cX8_roomFor 19 = .ok (.istore_n 2, 1) := by decide +kernel
theorem dX8_roomFor_20 : decode cX8_roomFor 20 = .ok (.iload_n 2, 1) := by decide +kernel
theorem dX8_roomFor_21 : decode cX8_roomFor 21 = .ok (.bipush 99, 2) := by decide +kernel
theorem dX8_roomFor_23 : decode cX8_roomFor 23 = .ok (.if_icmp .gt 83, 3) := by decide +kernel
theorem dX8_roomFor_26 : decode cX8_roomFor 26 = .ok (.iconst 0, 1) := by decide +kernel
theorem dX8_roomFor_27 : decode cX8_roomFor 27 = .ok (.istore_n 3, 1) := by decide +kernel
theorem dX8_roomFor_28 : decode cX8_roomFor 28 = .ok (.iconst 0, 1) := by decide +kernel
theorem dX8_roomFor_29 : decode cX8_roomFor 29 = .ok (.istore 4, 2) := by decide +kernel
theorem dX8_roomFor_31 : decode cX8_roomFor 31 = .ok (.iload 4, 2) := by decide +kernel
theorem dX8_roomFor_33 : decode cX8_roomFor 33 = .ok (.aload_n 0, 1) := by decide +kernel
theorem dX8_roomFor_34 : decode cX8_roomFor 34 = .ok (.getfield 26, 3) := by decide +kernel
theorem dX8_roomFor_37 : decode cX8_roomFor 37 = .ok (.iconst 0, 1) := by decide +kernel
theorem dX8_roomFor_38 : decode cX8_roomFor 38 = .ok (.iaload, 1) := by decide +kernel
theorem dX8_roomFor_39 : decode cX8_roomFor 39 = .ok (.if_icmp .ge 47, 3) := by decide +kernel
theorem dX8_roomFor_42 : decode cX8_roomFor 42 = .ok (.aload_n 0, 1) := by decide +kernel
theorem dX8_roomFor_43 : decode cX8_roomFor 43 = .ok (.bipush 26, 2) := by decide +kernel
theorem dX8_roomFor_45 : decode cX8_roomFor 45 = .ok (.iload 4, 2) := by decide +kernel
theorem dX8_roomFor_47 : decode cX8_roomFor 47 = .ok (.invokevirtual 123, 3) := by decide +kernel
theorem dX8_roomFor_50 : decode cX8_roomFor 50 = .ok (.istore 5, 2) := by decide +kernel
theorem dX8_roomFor_52 : decode cX8_roomFor 52 = .ok (.iload_n 3, 1) := by decide +kernel
theorem dX8_roomFor_53 : decode cX8_roomFor 53 = .ok (.iload 5, 2) := by decide +kernel
theorem dX8_roomFor_55 : decode cX8_roomFor 55 = .ok (.bipush (-9), 2) := by decide +kernel
theorem dX8_roomFor_57 : decode cX8_roomFor 57 = .ok (.if_icmp .eq 16, 3) := by decide +kernel
theorem dX8_roomFor_60 : decode cX8_roomFor 60 = .ok (.aload_n 0, 1) := by decide +kernel
theorem dX8_roomFor_61 : decode cX8_roomFor 61 = .ok (.getfield 41, 3) := by decide +kernel
theorem dX8_roomFor_64 : decode cX8_roomFor 64 = .ok (.bipush 28, 2) := by decide +kernel
theorem dX8_roomFor_66 : decode cX8_roomFor 66 = .ok (.iload 5, 2) := by decide +kernel
theorem dX8_roomFor_68 : decode cX8_roomFor 68 = .ok (.iadd, 1) := by decide +kernel
theorem dX8_roomFor_69 : decode cX8_roomFor 69 = .ok (.iaload, 1) := by decide +kernel
theorem dX8_roomFor_70 : decode cX8_roomFor 70 = .ok (.ifCond .ne 7, 3) := by decide +kernel
theorem dX8_roomFor_73 : decode cX8_roomFor 73 = .ok (.iconst 1, 1) := by decide +kernel
theorem dX8_roomFor_74 : decode cX8_roomFor 74 = .ok (.goto 4, 3) := by decide +kernel
theorem dX8_roomFor_77 : decode cX8_roomFor 77 = .ok (.iconst 0, 1) := by decide +kernel
theorem dX8_roomFor_78 : decode cX8_roomFor 78 = .ok (.iadd, 1) := by decide +kernel
theorem dX8_roomFor_79 : decode cX8_roomFor 79 = .ok (.istore_n 3, 1) := by decide +kernel
theorem dX8_roomFor_80 : decode cX8_roomFor 80 = .ok (.iinc 4 1, 3) := by decide +kernel
theorem dX8_roomFor_83 : decode cX8_roomFor 83 = .ok (.goto (-52), 3) := by decide +kernel
theorem dX8_roomFor_86 : decode cX8_roomFor 86 = .ok (.iload_n 3, 1) := by decide +kernel
theorem dX8_roomFor_87 : decode cX8_roomFor 87 = .ok (.iload_n 1, 1) := by decide +kernel
theorem dX8_roomFor_88 : decode cX8_roomFor 88 = .ok (.if_icmp .lt 5, 3) := by decide +kernel
theorem dX8_roomFor_91 : decode cX8_roomFor 91 = .ok (.iload_n 2, 1) := by decide +kernel
theorem dX8_roomFor_92 : decode cX8_roomFor 92 = .ok (.ireturn, 1) := by decide +kernel
theorem dX8_roomFor_93 : decode cX8_roomFor 93 = .ok (.aload_n 0, 1) := by decide +kernel
theorem dX8_roomFor_94 : decode cX8_roomFor 94 = .ok (.bipush 26, 2) := by decide +kernel
theorem dX8_roomFor_96 : decode cX8_roomFor 96 = .ok (.invokevirtual 137, 3) := by decide +kernel
theorem dX8_roomFor_99 : decode cX8_roomFor 99 = .ok (.pop, 1) := by decide +kernel
theorem dX8_roomFor_100 : decode cX8_roomFor 100 = .ok (.iinc 2 1, 3) := by decide +kernel
theorem dX8_roomFor_103 : decode cX8_roomFor 103 = .ok (.goto (-83), 3) := by decide +kernel
theorem dX8_roomFor_106 : decode cX8_roomFor 106 = .ok (.bipush (-9), 2) := by decide +kernel
theorem dX8_roomFor_108 : decode cX8_roomFor 108 = .ok (.ireturn, 1) := by decide +kernel
set_option maxRecDepth 20000 in
theorem ggX8_pegs_X8_pieceOn : GoodIn wsX8_pegs wsX8_pieceOn := goodIn_r _ [8, 9, 10, 11, 12, 13, 14, 15, 16, 17, 18, 19, 20, 21, 22, 23, 24, 25, 26, 27, 28, 29, 30, 31, 32, 33, 34, 35, 36] (by decide +kernel) (by decide +kernel)
set_option maxRecDepth 20000 in
theorem gX8_pegs_X8_pieceOn : GoodIn wsX8_pegs (wsV RX8 123 RX8 yX8_pieceOn wsX8_pieceOn) := goodIn_app (goodIn_of _ (by decide +kernel)) ggX8_pegs_X8_pieceOn
theorem dX8_pegs_0 : decode cX8_pegs 0 = .ok (.iconst 0, 1) := by decide +kernel
theorem dX8_pegs_1 : decode cX8_pegs 1 = .ok (.istore_n 1, 1) := by decide +kernel
theorem dX8_pegs_2 : decode cX8_pegs 2 = .ok (.iconst 0, 1) := by decide +kernel
theorem dX8_pegs_3 : decode cX8_pegs 3 = .ok (.istore_n 2, 1) := by decide +kernel
theorem dX8_pegs_4 : decode cX8_pegs 4 = .ok (.iload_n 2, 1) := by decide +kernel
theorem dX8_pegs_5 : decode cX8_pegs 5 = .ok (.aload_n 0, 1) := by decide +kernel
theorem dX8_pegs_6 : decode cX8_pegs 6 = .ok (.getfield 26, 3) := by decide +kernel
theorem dX8_pegs_9 : decode cX8_pegs 9 = .ok (.iconst 0, 1) := by decide +kernel
theorem dX8_pegs_10 : decode cX8_pegs 10 = .ok (.iaload, 1) := by decide +kernel
theorem dX8_pegs_11 : decode cX8_pegs 11 = .ok (.if_icmp .ge 78, 3) := by decide +kernel
theorem dX8_pegs_14 : decode cX8_pegs 14 = .ok (.aload_n 0, 1) := by decide +kernel
theorem dX8_pegs_15 : decode cX8_pegs 15 = .ok (.iconst 0, 1) := by decide +kernel
theorem dX8_pegs_16 : decode cX8_pegs 16 = .ok (.iload_n 2, 1) := by decide +kernel
theorem dX8_pegs_17 : decode cX8_pegs 17 = .ok (.invokevirtual 123, 3) := by decide +kernel
theorem dX8_pegs_20 : decode cX8_pegs 20 = .ok (.istore_n 3, 1) := by decide +kernel
theorem dX8_pegs_21 : decode cX8_pegs 21 = .ok (.iload_n 1, 1) := by decide +kernel
theorem dX8_pegs_22 : decode cX8_pegs 22 = .ok (.iload_n 3, 1) := by decide +kernel
theorem dX8_pegs_23 : decode cX8_pegs 23 = .ok (.bipush (-9), 2) := by decide +kernel
theorem dX8_pegs_25 : decode cX8_pegs 25 = .ok (.if_icmp .ne 7, 3) := by decide +kernel
theorem dX8_pegs_28 : decode cX8_pegs 28 = .ok (.iconst 0, 1) := by decide +kernel
theorem dX8_pegs_29 : decode cX8_pegs 29 = .ok (.goto 21, 3) := by decide +kernel
theorem dX8_pegs_32 : decode cX8_pegs 32 = .ok (.iconst 1, 1) := by decide +kernel
theorem dX8_pegs_33 : decode cX8_pegs 33 = .ok (.aload_n 0, 1) := by decide +kernel
theorem dX8_pegs_34 : decode cX8_pegs 34 = .ok (.getfield 20, 3) := by decide +kernel
theorem dX8_pegs_37 : decode cX8_pegs 37 = .ok (.iload_n 3, 1) := by decide +kernel
theorem dX8_pegs_38 : decode cX8_pegs 38 = .ok (.iaload, 1) := by decide +kernel
theorem dX8_pegs_39 : decode cX8_pegs 39 = .ok (.aload_n 0, 1) := by decide +kernel
theorem dX8_pegs_40 : decode cX8_pegs 40 = .ok (.getfield 32, 3) := by decide +kernel
theorem dX8_pegs_43 : decode cX8_pegs 43 = .ok (.iload_n 2, 1) := by decide +kernel
theorem dX8_pegs_44 : decode cX8_pegs 44 = .ok (.iaload, 1) := by decide +kernel
theorem dX8_pegs_45 : decode cX8_pegs 45 = .ok (.imul, 1) := by decide +kernel
theorem dX8_pegs_46 : decode cX8_pegs 46 = .ok (.bipush 9, 2) := by decide +kernel
theorem dX8_pegs_48 : decode cX8_pegs 48 = .ok (.idiv, 1) := by decide +kernel
theorem dX8_pegs_49 : decode cX8_pegs 49 = .ok (.iadd, 1) := by decide +kernel
theorem dX8_pegs_50 : decode cX8_pegs 50 = .ok (.iadd, 1) := by decide +kernel
theorem dX8_pegs_51 : decode cX8_pegs 51 = .ok (.istore_n 1, 1) := by decide +kernel
theorem dX8_pegs_52 : decode cX8_pegs 52 = .ok (.iload_n 1, 1) := by decide +kernel
theorem dX8_pegs_53 : decode cX8_pegs 53 = .ok (.iload_n 3, 1) := by decide +kernel
theorem dX8_pegs_54 : decode cX8_pegs 54 = .ok (.bipush (-9), 2) := by decide +kernel
theorem dX8_pegs_56 : decode cX8_pegs 56 = .ok (.if_icmp .eq 24, 3) := by decide +kernel
theorem dX8_pegs_59 : decode cX8_pegs 59 = .ok (.iload_n 2, 1) := by decide +kernel
theorem dX8_pegs_60 : decode cX8_pegs 60 = .ok (.ifCond .le 20, 3) := by decide +kernel
theorem dX8_pegs_63 : decode cX8_pegs 63 = .ok (.aload_n 0, 1) := by decide +kernel
theorem dX8_pegs_64 : decode cX8_pegs 64 = .ok (.iconst 0, 1) := by decide +kernel
theorem dX8_pegs_65 : decode cX8_pegs 65 = .ok (.iload_n 2, 1) := by decide +kernel
theorem dX8_pegs_66 : decode cX8_pegs 66 = .ok (.iconst 1, 1) := by decide +kernel
theorem dX8_pegs_67 : decode cX8_pegs 67 = .ok (.isub, 1) := by decide +kernel
theorem dX8_pegs_68 : decode cX8_pegs 68 = .ok (.invokevirtual 123, 3) := by decide +kernel
theorem dX8_pegs_71 : decode cX8_pegs 71 = .ok (.bipush (-9), 2) := by decide +kernel
theorem dX8_pegs_73 : decode cX8_pegs 73 = .ok (.if_icmp .eq 7, 3) := by decide +kernel
theorem dX8_pegs_76 : decode cX8_pegs 76 = .ok (.iconst 1, 1) := by decide +kernel
theorem dX8_pegs_77 : decode cX8_pegs 77 = .ok (.goto 4, 3) := by decide +kernel
theorem dX8_pegs_80 : decode cX8_pegs 80 = .ok (.iconst 0, 1) := by decide +kernel
theorem dX8_pegs_81 : decode cX8_pegs 81 = .ok (.isub, 1) := by decide +kernel
theorem dX8_pegs_82 : decode cX8_pegs 82 = .ok (.istore_n 1, 1) := by decide +kernel
theorem dX8_pegs_83 : decode cX8_pegs 83 = .ok (.iinc 2 1, 3) := by decide +kernel
theorem dX8_pegs_86 : decode cX8_pegs 86 = .ok (.goto (-82), 3) := by decide +kernel
theorem dX8_pegs_89 : decode cX8_pegs 89 = .ok (.iload_n 1, 1) := by decide +kernel
theorem dX8_pegs_90 : decode cX8_pegs 90 = .ok (.ireturn, 1) := by decide +kernel
set_option maxRecDepth 20000 in
theorem ggX8_coins_X8_in : GoodIn wsX8_coins wsX8_in := goodIn_r _ [6] (by decide +kernel) (by decide +kernel)
set_option maxRecDepth 20000 in
theorem gX8_coins_X8_in : GoodIn wsX8_coins (va_wsS RX8 66 yX8_in wsX8_in) := goodIn_app (goodIn_of _ (by decide +kernel)) ggX8_coins_X8_in
set_option maxRecDepth 20000 in
theorem ggX8_coins_X8_copy : GoodIn wsX8_coins wsX8_copy := goodIn_r _ [10, 2, 29, 30, 31, 32, 33, 34, 35, 36, 37, 38, 39, 40, 41, 42, 43, 44, 45, 46, 47, 48, 49, 50, 51, 52, 53, 54] (by decide +kernel) (by decide +kernel)
set_option maxRecDepth 20000 in
theorem gX8_coins_X8_copy : GoodIn wsX8_coins (wsV RX8 143 RX8 yX8_copy wsX8_copy) := goodIn_app (goodIn_of _ (by decide +kernel)) ggX8_coins_X8_copy
set_option maxRecDepth 20000 in
theorem ggX8_coins_X8_goStep : GoodIn wsX8_coins wsX8_goStep := goodIn_r _ [14, 2, 1, 15, 16, 17, 5, 18, 19, 20, 21, 22, 23, 24, 25, 26, 27, 28, 29, 30, 31, 32, 33, 34, 35, 36, 37, 38, 39, 40, 41, 42, 43, 44, 45, 46, 47, 48, 49, 50, 51, 52, 53, 54] (by decide +kernel) (by decide +kernel)
set_option maxRecDepth 20000 in
theorem gX8_coins_X8_goStep : GoodIn wsX8_coins (wsV RX8 137 RX8 yX8_goStep wsX8_goStep) := goodIn_app (goodIn_of _ (by decide +kernel)) ggX8_coins_X8_goStep
theorem dX8_coins_0 : decode cX8_coins 0 = .ok (.iload_n 1, 1) := by decide +kernel
theorem dX8_coins_1 : decode cX8_coins 1 = .ok (.iconst 0, 1) := by decide +kernel
theorem dX8_coins_2 : decode cX8_coins 2 = .ok (.bipush 24, 2) := by decide +kernel
theorem dX8_coins_4 : decode cX8_coins 4 = .ok (.invokestatic 66, 3) := by decide +kernel
theorem dX8_coins_7 : decode cX8_coins 7 = .ok (.ifCond .ne 5, 3) := by decide +kernel
theorem dX8_coins_10 : decode cX8_coins 10 = .ok (.iconst (-1), 1) := by decide +kernel
theorem dX8_coins_11 : decode cX8_coins 11 = .ok (.ireturn, 1) := by decide +kernel
theorem dX8_coins_12 : decode cX8_coins 12 = .ok (.aload_n 0, 1) := by decide +kernel
theorem dX8_coins_13 : decode cX8_coins 13 = .ok (.iconst 0, 1) := by decide +kernel
theorem dX8_coins_14 : decode cX8_coins 14 = .ok (.bipush 26, 2) := by decide +kernel
theorem dX8_coins_16 : decode cX8_coins 16 = .ok (.invokevirtual 143, 3) := by decide +kernel
theorem dX8_coins_19 : decode cX8_coins 19 = .ok (.iconst 0, 1) := by decide +kernel
theorem dX8_coins_20 : decode cX8_coins 20 = .ok (.istore_n 2, 1) := by decide +kernel
theorem dX8_coins_21 : decode cX8_coins 21 = .ok (.iload_n 2, 1) := by decide +kernel
theorem dX8_coins_22 : decode cX8_coins 22 = .ok (.iload_n 1, 1) := by decide +kernel
theorem dX8_coins_23 : decode cX8_coins 23 = .ok (.if_icmp .ge 16, 3) := by decide +kernel
theorem dX8_coins_26 : decode cX8_coins 26 = .ok (.aload_n 0, 1) := by decide +kernel
theorem dX8_coins_27 : decode cX8_coins 27 = .ok (.bipush 26, 2) := by decide +kernel
theorem dX8_coins_29 : decode cX8_coins 29 = .ok (.invokevirtual 137, 3) := by decide +kernel
theorem dX8_coins_32 : decode cX8_coins 32 = .ok (.pop, 1) := by decide +kernel
theorem dX8_coins_33 : decode cX8_coins 33 = .ok (.iinc 2 1, 3) := by decide +kernel
theorem dX8_coins_36 : decode cX8_coins 36 = .ok (.goto (-15), 3) := by decide +kernel
theorem dX8_coins_39 : decode cX8_coins 39 = .ok (.iconst 0, 1) := by decide +kernel
theorem dX8_coins_40 : decode cX8_coins 40 = .ok (.istore_n 2, 1) := by decide +kernel
theorem dX8_coins_41 : decode cX8_coins 41 = .ok (.iconst 0, 1) := by decide +kernel
theorem dX8_coins_42 : decode cX8_coins 42 = .ok (.istore_n 3, 1) := by decide +kernel
theorem dX8_coins_43 : decode cX8_coins 43 = .ok (.iload_n 3, 1) := by decide +kernel
theorem dX8_coins_44 : decode cX8_coins 44 = .ok (.aload_n 0, 1) := by decide +kernel
theorem dX8_coins_45 : decode cX8_coins 45 = .ok (.getfield 13, 3) := by decide +kernel
theorem dX8_coins_48 : decode cX8_coins 48 = .ok (.iconst 0, 1) := by decide +kernel
theorem dX8_coins_49 : decode cX8_coins 49 = .ok (.iaload, 1) := by decide +kernel
theorem dX8_coins_50 : decode cX8_coins 50 = .ok (.if_icmp .ge 27, 3) := by decide +kernel
theorem dX8_coins_53 : decode cX8_coins 53 = .ok (.iload_n 2, 1) := by decide +kernel
theorem dX8_coins_54 : decode cX8_coins 54 = .ok (.aload_n 0, 1) := by decide +kernel
theorem dX8_coins_55 : decode cX8_coins 55 = .ok (.getfield 41, 3) := by decide +kernel
theorem dX8_coins_58 : decode cX8_coins 58 = .ok (.bipush 28, 2) := by decide +kernel
theorem dX8_coins_60 : decode cX8_coins 60 = .ok (.iload_n 3, 1) := by decide +kernel
theorem dX8_coins_61 : decode cX8_coins 61 = .ok (.iadd, 1) := by decide +kernel
theorem dX8_coins_62 : decode cX8_coins 62 = .ok (.iaload, 1) := by decide +kernel
theorem dX8_coins_63 : decode cX8_coins 63 = .ok (.bipush 19, 2) := by decide +kernel
theorem dX8_coins_65 : decode cX8_coins 65 = .ok (.iadd, 1) := by decide +kernel
theorem dX8_coins_66 : decode cX8_coins 66 = .ok (.bipush 20, 2) := by decide +kernel
theorem dX8_coins_68 : decode cX8_coins 68 = .ok (.idiv, 1) := by decide +kernel
theorem dX8_coins_69 : decode cX8_coins 69 = .ok (.iadd, 1) := by decide +kernel
theorem dX8_coins_70 : decode cX8_coins 70 = .ok (.istore_n 2, 1) := by decide +kernel
theorem dX8_coins_71 : decode cX8_coins 71 = .ok (.iinc 3 1, 3) := by decide +kernel
theorem dX8_coins_74 : decode cX8_coins 74 = .ok (.goto (-31), 3) := by decide +kernel
theorem dX8_coins_77 : decode cX8_coins 77 = .ok (.iload_n 2, 1) := by decide +kernel
theorem dX8_coins_78 : decode cX8_coins 78 = .ok (.ireturn, 1) := by decide +kernel
set_option maxRecDepth 20000 in
theorem ggX8_held_X8_in : GoodIn wsX8_held wsX8_in := goodIn_r _ [7] (by decide +kernel) (by decide +kernel)
set_option maxRecDepth 20000 in
theorem gX8_held_X8_in : GoodIn wsX8_held (va_wsS RX8 66 yX8_in wsX8_in) := goodIn_app (goodIn_of _ (by decide +kernel)) ggX8_held_X8_in
theorem dX8_held_0 : decode cX8_held 0 = .ok (.iload_n 1, 1) := by decide +kernel
theorem dX8_held_1 : decode cX8_held 1 = .ok (.iconst 0, 1) := by decide +kernel
theorem dX8_held_2 : decode cX8_held 2 = .ok (.iconst 1, 1) := by decide +kernel
theorem dX8_held_3 : decode cX8_held 3 = .ok (.invokestatic 66, 3) := by decide +kernel
theorem dX8_held_6 : decode cX8_held 6 = .ok (.ifCond .eq 21, 3) := by decide +kernel
theorem dX8_held_9 : decode cX8_held 9 = .ok (.iload_n 2, 1) := by decide +kernel
theorem dX8_held_10 : decode cX8_held 10 = .ok (.iconst 0, 1) := by decide +kernel
theorem dX8_held_11 : decode cX8_held 11 = .ok (.iconst 1, 1) := by decide +kernel
theorem dX8_held_12 : decode cX8_held 12 = .ok (.invokestatic 66, 3) := by decide +kernel
theorem dX8_held_15 : decode cX8_held 15 = .ok (.ifCond .eq 12, 3) := by decide +kernel
theorem dX8_held_18 : decode cX8_held 18 = .ok (.iload_n 3, 1) := by decide +kernel
theorem dX8_held_19 : decode cX8_held 19 = .ok (.iconst 0, 1) := by decide +kernel
theorem dX8_held_20 : decode cX8_held 20 = .ok (.iconst 1, 1) := by decide +kernel
theorem dX8_held_21 : decode cX8_held 21 = .ok (.invokestatic 66, 3) := by decide +kernel
theorem dX8_held_24 : decode cX8_held 24 = .ok (.ifCond .ne 5, 3) := by decide +kernel
theorem dX8_held_27 : decode cX8_held 27 = .ok (.iconst (-1), 1) := by decide +kernel
theorem dX8_held_28 : decode cX8_held 28 = .ok (.ireturn, 1) := by decide +kernel
theorem dX8_held_29 : decode cX8_held 29 = .ok (.aload_n 0, 1) := by decide +kernel
theorem dX8_held_30 : decode cX8_held 30 = .ok (.getfield 174, 3) := by decide +kernel
theorem dX8_held_33 : decode cX8_held 33 = .ok (.bipush 30, 2) := by decide +kernel
theorem dX8_held_35 : decode cX8_held 35 = .ok (.if_icmp .ne 6, 3) := by decide +kernel
theorem dX8_held_38 : decode cX8_held 38 = .ok (.bipush (-3), 2) := by decide +kernel
theorem dX8_held_40 : decode cX8_held 40 = .ok (.ireturn, 1) := by decide +kernel
theorem dX8_held_41 : decode cX8_held 41 = .ok (.aload_n 0, 1) := by decide +kernel
theorem dX8_held_42 : decode cX8_held 42 = .ok (.getfield 60, 3) := by decide +kernel
theorem dX8_held_45 : decode cX8_held 45 = .ok (.iconst 2, 1) := by decide +kernel
theorem dX8_held_46 : decode cX8_held 46 = .ok (.aload_n 0, 1) := by decide +kernel
theorem dX8_held_47 : decode cX8_held 47 = .ok (.getfield 174, 3) := by decide +kernel
theorem dX8_held_50 : decode cX8_held 50 = .ok (.imul, 1) := by decide +kernel
theorem dX8_held_51 : decode cX8_held 51 = .ok (.iload_n 1, 1) := by decide +kernel
theorem dX8_held_52 : decode cX8_held 52 = .ok (.iastore, 1) := by decide +kernel
theorem dX8_held_53 : decode cX8_held 53 = .ok (.aload_n 0, 1) := by decide +kernel
theorem dX8_held_54 : decode cX8_held 54 = .ok (.getfield 60, 3) := by decide +kernel
theorem dX8_held_57 : decode cX8_held 57 = .ok (.iconst 2, 1) := by decide +kernel
theorem dX8_held_58 : decode cX8_held 58 = .ok (.aload_n 0, 1) := by decide +kernel
theorem dX8_held_59 : decode cX8_held 59 = .ok (.getfield 174, 3) := by decide +kernel
theorem dX8_held_62 : decode cX8_held 62 = .ok (.imul, 1) := by decide +kernel
theorem dX8_held_63 : decode cX8_held 63 = .ok (.iconst 1, 1) := by decide +kernel
theorem dX8_held_64 : decode cX8_held 64 = .ok (.iadd, 1) := by decide +kernel
theorem dX8_held_65 : decode cX8_held 65 = .ok (.iload_n 2, 1) := by decide +kernel
theorem dX8_held_66 : decode cX8_held 66 = .ok (.iastore, 1) := by decide +kernel
theorem dX8_held_67 : decode cX8_held 67 = .ok (.aload_n 0, 1) := by decide +kernel
theorem dX8_held_68 : decode cX8_held 68 = .ok (.getfield 63, 3) := by decide +kernel
theorem dX8_held_71 : decode cX8_held 71 = .ok (.aload_n 0, 1) := by decide +kernel
theorem dX8_held_72 : decode cX8_held 72 = .ok (.getfield 174, 3) := by decide +kernel
theorem dX8_held_75 : decode cX8_held 75 = .ok (.iload_n 3, 1) := by decide +kernel
theorem dX8_held_76 : decode cX8_held 76 = .ok (.iastore, 1) := by decide +kernel
theorem dX8_held_77 : decode cX8_held 77 = .ok (.aload_n 0, 1) := by decide +kernel
theorem dX8_held_78 : decode cX8_held 78 = .ok (.dup, 1) := by decide +kernel
theorem dX8_held_79 : decode cX8_held 79 = .ok (.getfield 174, 3) := by decide +kernel
theorem dX8_held_82 : decode cX8_held 82 = .ok (.iconst 1, 1) := by decide +kernel
theorem dX8_held_83 : decode cX8_held 83 = .ok (.iadd, 1) := by decide +kernel
theorem dX8_held_84 : decode cX8_held 84 = .ok (.putfield 174, 3) := by decide +kernel
theorem dX8_held_87 : decode cX8_held 87 = .ok (.aload_n 0, 1) := by decide +kernel
theorem dX8_held_88 : decode cX8_held 88 = .ok (.getfield 174, 3) := by decide +kernel
theorem dX8_held_91 : decode cX8_held 91 = .ok (.ireturn, 1) := by decide +kernel
theorem dX8_rightOf_0 : decode cX8_rightOf 0 = .ok (.iconst 0, 1) := by decide +kernel
theorem dX8_rightOf_1 : decode cX8_rightOf 1 = .ok (.istore_n 2, 1) := by decide +kernel
theorem dX8_rightOf_2 : decode cX8_rightOf 2 = .ok (.iconst 0, 1) := by decide +kernel
theorem dX8_rightOf_3 : decode cX8_rightOf 3 = .ok (.istore_n 3, 1) := by decide +kernel
theorem dX8_rightOf_4 : decode cX8_rightOf 4 = .ok (.iload_n 3, 1) := by decide +kernel
theorem dX8_rightOf_5 : decode cX8_rightOf 5 = .ok (.aload_n 0, 1) := by decide +kernel
theorem dX8_rightOf_6 : decode cX8_rightOf 6 = .ok (.getfield 174, 3) := by decide +kernel
theorem dX8_rightOf_9 : decode cX8_rightOf 9 = .ok (.if_icmp .ge 36, 3) := by decide +kernel
theorem dX8_rightOf_12 : decode cX8_rightOf 12 = .ok (.iload_n 2, 1) := by decide +kernel
theorem dX8_rightOf_13 : decode cX8_rightOf 13 = .ok (.aload_n 0, 1) := by decide +kernel
theorem dX8_rightOf_14 : decode cX8_rightOf 14 = .ok (.getfield 60, 3) := by decide +kernel
theorem dX8_rightOf_17 : decode cX8_rightOf 17 = .ok (.iconst 2, 1) := by decide +kernel
theorem dX8_rightOf_18 : decode cX8_rightOf 18 = .ok (.iload_n 3, 1) := by decide +kernel
theorem dX8_rightOf_19 : decode cX8_rightOf 19 = .ok (.imul, 1) := by decide +kernel
theorem dX8_rightOf_20 : decode cX8_rightOf 20 = .ok (.iload_n 1, 1) := by decide +kernel
theorem dX8_rightOf_21 : decode cX8_rightOf 21 = .ok (.iadd, 1) := by decide +kernel
theorem dX8_rightOf_22 : decode cX8_rightOf 22 = .ok (.iaload, 1) := by decide +kernel
theorem dX8_rightOf_23 : decode cX8_rightOf 23 = .ok (.aload_n 0, 1) := by decide +kernel
theorem dX8_rightOf_24 : decode cX8_rightOf 24 = .ok (.getfield 63, 3) := by decide +kernel
theorem dX8_rightOf_27 : decode cX8_rightOf 27 = .ok (.iload_n 3, 1) := by decide +kernel
theorem dX8_rightOf_28 : decode cX8_rightOf 28 = .ok (.iaload, 1) := by decide +kernel
theorem dX8_rightOf_29 : decode cX8_rightOf 29 = .ok (.if_icmp .ne 7, 3) := by decide +kernel
theorem dX8_rightOf_32 : decode cX8_rightOf 32 = .ok (.iconst 1, 1) := by decide +kernel
theorem dX8_rightOf_33 : decode cX8_rightOf 33 = .ok (.goto 4, 3) := by decide +kernel
theorem dX8_rightOf_36 : decode cX8_rightOf 36 = .ok (.iconst 0, 1) := by decide +kernel
theorem dX8_rightOf_37 : decode cX8_rightOf 37 = .ok (.iadd, 1) := by decide +kernel
theorem dX8_rightOf_38 : decode cX8_rightOf 38 = .ok (.istore_n 2, 1) := by decide +kernel
theorem dX8_rightOf_39 : decode cX8_rightOf 39 = .ok (.iinc 3 1, 3) := by decide +kernel
theorem dX8_rightOf_42 : decode cX8_rightOf 42 = .ok (.goto (-38), 3) := by decide +kernel
theorem dX8_rightOf_45 : decode cX8_rightOf 45 = .ok (.iload_n 2, 1) := by decide +kernel
theorem dX8_rightOf_46 : decode cX8_rightOf 46 = .ok (.ireturn, 1) := by decide +kernel
set_option maxRecDepth 20000 in
theorem ggX8_right_X8_in : GoodIn wsX8_right wsX8_in := goodIn_r _ [4] (by decide +kernel) (by decide +kernel)
set_option maxRecDepth 20000 in
theorem gX8_right_X8_in : GoodIn wsX8_right (va_wsS RX8 66 yX8_in wsX8_in) := goodIn_app (goodIn_of _ (by decide +kernel)) ggX8_right_X8_in
set_option maxRecDepth 20000 in
theorem ggX8_right_X8_rightOf : GoodIn wsX8_right wsX8_rightOf := goodIn_r _ [8, 9, 10, 11, 12, 13, 14, 15, 16, 17, 18, 19, 20, 21, 22, 23, 24, 25, 26, 27, 28, 29, 30, 31, 32, 33, 34, 35, 36, 37] (by decide +kernel) (by decide +kernel)
set_option maxRecDepth 20000 in
theorem gX8_right_X8_rightOf : GoodIn wsX8_right (wsV RX8 177 RX8 yX8_rightOf wsX8_rightOf) := goodIn_app (goodIn_of _ (by decide +kernel)) ggX8_right_X8_rightOf
theorem dX8_right_0 : decode cX8_right 0 = .ok (.iload_n 1, 1) := by decide +kernel
theorem dX8_right_1 : decode cX8_right 1 = .ok (.iconst 0, 1) := by decide +kernel
theorem dX8_right_2 : decode cX8_right 2 = .ok (.iconst 1, 1) := by decide +kernel
theorem dX8_right_3 : decode cX8_right 3 = .ok (.invokestatic 66, 3) := by decide +kernel
theorem dX8_right_6 : decode cX8_right 6 = .ok (.ifCond .eq 11, 3) := by decide +kernel
theorem dX8_right_9 : decode cX8_right 9 = .ok (.aload_n 0, 1) := by decide +kernel
theorem dX8_right_10 : decode cX8_right 10 = .ok (.iload_n 1, 1) := by decide +kernel
theorem dX8_right_11 : decode cX8_right 11 = .ok (.invokevirtual 177, 3) := by decide +kernel
theorem dX8_right_14 : decode cX8_right 14 = .ok (.goto 4, 3) := by decide +kernel
theorem dX8_right_17 : decode cX8_right 17 = .ok (.iconst (-1), 1) := by decide +kernel
theorem dX8_right_18 : decode cX8_right 18 = .ok (.ireturn, 1) := by decide +kernel
set_option maxRecDepth 20000 in
theorem ggX8_better_X8_rightOf : GoodIn wsX8_better wsX8_rightOf := goodIn_r _ [6, 1, 7, 8, 9, 10, 11, 12, 13, 14, 15, 16, 17, 18, 19, 20, 21, 22, 23, 24, 25, 26, 27, 28, 29, 30, 31, 32, 33, 34] (by decide +kernel) (by decide +kernel)
set_option maxRecDepth 20000 in
theorem gX8_better_X8_rightOf : GoodIn wsX8_better (wsV RX8 177 RX8 yX8_rightOf wsX8_rightOf) := goodIn_app (goodIn_of _ (by decide +kernel)) ggX8_better_X8_rightOf
theorem dX8_better_0 : decode cX8_better 0 = .ok (.aload_n 0, 1) := by decide +kernel
theorem dX8_better_1 : decode cX8_better 1 = .ok (.getfield 174, 3) := by decide +kernel
theorem dX8_better_4 : decode cX8_better 4 = .ok (.ifCond .ne 8, 3) := by decide +kernel
theorem dX8_better_7 : decode cX8_better 7 = .ok (.bipush (-9), 2) := by decide +kernel
theorem dX8_better_9 : decode cX8_better 9 = .ok (.goto 21, 3) := by decide +kernel
theorem dX8_better_12 : decode cX8_better 12 = .ok (.aload_n 0, 1) := by decide +kernel
theorem dX8_better_13 : decode cX8_better 13 = .ok (.iconst 1, 1) := by decide +kernel
theorem dX8_better_14 : decode cX8_better 14 = .ok (.invokevirtual 177, 3) := by decide +kernel
theorem dX8_better_17 : decode cX8_better 17 = .ok (.aload_n 0, 1) := by decide +kernel
theorem dX8_better_18 : decode cX8_better 18 = .ok (.iconst 0, 1) := by decide +kernel
theorem dX8_better_19 : decode cX8_better 19 = .ok (.invokevirtual 177, 3) := by decide +kernel
theorem dX8_better_22 : decode cX8_better 22 = .ok (.if_icmp .le 7, 3) := by decide +kernel
theorem dX8_better_25 : decode cX8_better 25 = .ok (.iconst 1, 1) := by decide +kernel
theorem dX8_better_26 : decode cX8_better 26 = .ok (.goto 4, 3) := by decide +kernel
theorem dX8_better_29 : decode cX8_better 29 = .ok (.iconst 0, 1) := by decide +kernel
theorem dX8_better_30 : decode cX8_better 30 = .ok (.ireturn, 1) := by decide +kernel
set_option maxRecDepth 20000 in
theorem ggX8_trust_X8_in : GoodIn wsX8_trust wsX8_in := goodIn_r _ [7] (by decide +kernel) (by decide +kernel)
set_option maxRecDepth 20000 in
theorem gX8_trust_X8_in : GoodIn wsX8_trust (va_wsS RX8 66 yX8_in wsX8_in) := goodIn_app (goodIn_of _ (by decide +kernel)) ggX8_trust_X8_in
set_option maxRecDepth 20000 in
theorem ggX8_trust_X8_common : GoodIn wsX8_trust wsX8_common := goodIn_r _ [10] (by decide +kernel) (by decide +kernel)
set_option maxRecDepth 20000 in
theorem gX8_trust_X8_common : GoodIn wsX8_trust (va_wsS RX8 170 yX8_common wsX8_common) := goodIn_app (goodIn_of _ (by decide +kernel)) ggX8_trust_X8_common
theorem dX8_trust_0 : decode cX8_trust 0 = .ok (.iload_n 1, 1) := by decide +kernel
theorem dX8_trust_1 : decode cX8_trust 1 = .ok (.iconst 0, 1) := by decide +kernel
theorem dX8_trust_2 : decode cX8_trust 2 = .ok (.iconst 1, 1) := by decide +kernel
theorem dX8_trust_3 : decode cX8_trust 3 = .ok (.invokestatic 66, 3) := by decide +kernel
theorem dX8_trust_6 : decode cX8_trust 6 = .ok (.ifCond .eq 12, 3) := by decide +kernel
theorem dX8_trust_9 : decode cX8_trust 9 = .ok (.iload_n 2, 1) := by decide +kernel
theorem dX8_trust_10 : decode cX8_trust 10 = .ok (.iconst 0, 1) := by decide +kernel
theorem dX8_trust_11 : decode cX8_trust 11 = .ok (.iconst 1, 1) := by decide +kernel
theorem dX8_trust_12 : decode cX8_trust 12 = .ok (.invokestatic 66, 3) := by decide +kernel
theorem dX8_trust_15 : decode cX8_trust 15 = .ok (.ifCond .ne 5, 3) := by decide +kernel
theorem dX8_trust_18 : decode cX8_trust 18 = .ok (.iconst (-1), 1) := by decide +kernel
theorem dX8_trust_19 : decode cX8_trust 19 = .ok (.ireturn, 1) := by decide +kernel
theorem dX8_trust_20 : decode cX8_trust 20 = .ok (.iconst 0, 1) := by decide +kernel
theorem dX8_trust_21 : decode cX8_trust 21 = .ok (.istore_n 3, 1) := by decide +kernel
theorem dX8_trust_22 : decode cX8_trust 22 = .ok (.iconst 0, 1) := by decide +kernel
theorem dX8_trust_23 : decode cX8_trust 23 = .ok (.istore 4, 2) := by decide +kernel
theorem dX8_trust_25 : decode cX8_trust 25 = .ok (.iconst 0, 1) := by decide +kernel
theorem dX8_trust_26 : decode cX8_trust 26 = .ok (.istore 5, 2) := by decide +kernel
theorem dX8_trust_28 : decode cX8_trust 28 = .ok (.iload 5, 2) := by decide +kernel
theorem dX8_trust_30 : decode cX8_trust 30 = .ok (.aload_n 0, 1) := by decide +kernel
theorem dX8_trust_31 : decode cX8_trust 31 = .ok (.getfield 174, 3) := by decide +kernel
theorem dX8_trust_34 : decode cX8_trust 34 = .ok (.if_icmp .ge 47, 3) := by decide +kernel
theorem dX8_trust_37 : decode cX8_trust 37 = .ok (.iload 4, 2) := by decide +kernel
theorem dX8_trust_39 : decode cX8_trust 39 = .ok (.aload_n 0, 1) := by decide +kernel
theorem dX8_trust_40 : decode cX8_trust 40 = .ok (.getfield 60, 3) := by decide +kernel
theorem dX8_trust_43 : decode cX8_trust 43 = .ok (.iconst 2, 1) := by decide +kernel
theorem dX8_trust_44 : decode cX8_trust 44 = .ok (.iload 5, 2) := by decide +kernel
theorem dX8_trust_46 : decode cX8_trust 46 = .ok (.imul, 1) := by decide +kernel
theorem dX8_trust_47 : decode cX8_trust 47 = .ok (.iload_n 1, 1) := by decide +kernel
theorem dX8_trust_48 : decode cX8_trust 48 = .ok (.iadd, 1) := by decide +kernel
theorem dX8_trust_49 : decode cX8_trust 49 = .ok (.iaload, 1) := by decide +kernel
theorem dX8_trust_50 : decode cX8_trust 50 = .ok (.iadd, 1) := by decide +kernel
theorem dX8_trust_51 : decode cX8_trust 51 = .ok (.istore 4, 2) := by decide +kernel
theorem dX8_trust_53 : decode cX8_trust 53 = .ok (.iload_n 3, 1) := by decide +kernel
theorem dX8_trust_54 : decode cX8_trust 54 = .ok (.aload_n 0, 1) := by decide +kernel
theorem dX8_trust_55 : decode cX8_trust 55 = .ok (.getfield 60, 3) := by decide +kernel
theorem dX8_trust_58 : decode cX8_trust 58 = .ok (.iconst 2, 1) := by decide +kernel
theorem dX8_trust_59 : decode cX8_trust 59 = .ok (.iload 5, 2) := by decide +kernel
theorem dX8_trust_61 : decode cX8_trust 61 = .ok (.imul, 1) := by decide +kernel
theorem dX8_trust_62 : decode cX8_trust 62 = .ok (.iload_n 1, 1) := by decide +kernel
theorem dX8_trust_63 : decode cX8_trust 63 = .ok (.iadd, 1) := by decide +kernel
theorem dX8_trust_64 : decode cX8_trust 64 = .ok (.iaload, 1) := by decide +kernel
theorem dX8_trust_65 : decode cX8_trust 65 = .ok (.aload_n 0, 1) := by decide +kernel
theorem dX8_trust_66 : decode cX8_trust 66 = .ok (.getfield 63, 3) := by decide +kernel
theorem dX8_trust_69 : decode cX8_trust 69 = .ok (.iload 5, 2) := by decide +kernel
theorem dX8_trust_71 : decode cX8_trust 71 = .ok (.iaload, 1) := by decide +kernel
theorem dX8_trust_72 : decode cX8_trust 72 = .ok (.imul, 1) := by decide +kernel
theorem dX8_trust_73 : decode cX8_trust 73 = .ok (.iadd, 1) := by decide +kernel
theorem dX8_trust_74 : decode cX8_trust 74 = .ok (.istore_n 3, 1) := by decide +kernel
theorem dX8_trust_75 : decode cX8_trust 75 = .ok (.iinc 5 1, 3) := by decide +kernel
theorem dX8_trust_78 : decode cX8_trust 78 = .ok (.goto (-50), 3) := by decide +kernel
theorem dX8_trust_81 : decode cX8_trust 81 = .ok (.iload 4, 2) := by decide +kernel
theorem dX8_trust_83 : decode cX8_trust 83 = .ok (.ifCond .ne 6, 3) := by decide +kernel
theorem dX8_trust_86 : decode cX8_trust 86 = .ok (.bipush (-2), 2) := by decide +kernel
theorem dX8_trust_88 : decode cX8_trust 88 = .ok (.ireturn, 1) := by decide +kernel
theorem dX8_trust_89 : decode cX8_trust 89 = .ok (.iload_n 3, 1) := by decide +kernel
theorem dX8_trust_90 : decode cX8_trust 90 = .ok (.i2l, 1) := by decide +kernel
theorem dX8_trust_91 : decode cX8_trust 91 = .ok (.iload 4, 2) := by decide +kernel
theorem dX8_trust_93 : decode cX8_trust 93 = .ok (.i2l, 1) := by decide +kernel
theorem dX8_trust_94 : decode cX8_trust 94 = .ok (.invokestatic 170, 3) := by decide +kernel
theorem dX8_trust_97 : decode cX8_trust 97 = .ok (.l2i, 1) := by decide +kernel
theorem dX8_trust_98 : decode cX8_trust 98 = .ok (.istore 5, 2) := by decide +kernel
theorem dX8_trust_100 : decode cX8_trust 100 = .ok (.iload_n 2, 1) := by decide +kernel
theorem dX8_trust_101 : decode cX8_trust 101 = .ok (.ifCond .ne 10, 3) := by decide +kernel
theorem dX8_trust_104 : decode cX8_trust 104 = .ok (.iload_n 3, 1) := by decide +kernel
theorem dX8_trust_105 : decode cX8_trust 105 = .ok (.iload 5, 2) := by decide +kernel
theorem dX8_trust_107 : decode cX8_trust 107 = .ok (.idiv, 1) := by decide +kernel
theorem dX8_trust_108 : decode cX8_trust 108 = .ok (.goto 8, 3) := by decide +kernel
theorem dX8_trust_111 : decode cX8_trust 111 = .ok (.iload 4, 2) := by decide +kernel
theorem dX8_trust_113 : decode cX8_trust 113 = .ok (.iload 5, 2) := by decide +kernel
theorem dX8_trust_115 : decode cX8_trust 115 = .ok (.idiv, 1) := by decide +kernel
theorem dX8_trust_116 : decode cX8_trust 116 = .ok (.ireturn, 1) := by decide +kernel
set_option maxRecDepth 20000 in
theorem ggX8_mark_X8_in : GoodIn wsX8_mark wsX8_in := goodIn_r _ [14] (by decide +kernel) (by decide +kernel)
set_option maxRecDepth 20000 in
theorem gX8_mark_X8_in : GoodIn wsX8_mark (va_wsS RX8 66 yX8_in wsX8_in) := goodIn_app (goodIn_of _ (by decide +kernel)) ggX8_mark_X8_in
set_option maxRecDepth 20000 in
theorem ggX8_mark_X8_isPiece : GoodIn wsX8_mark wsX8_isPiece := goodIn_r _ [18, 19, 11, 12, 13, 14, 20, 21, 22, 23, 24, 25, 26, 27, 28, 29, 30, 31, 32, 33, 34, 35, 36, 37, 38, 39, 40, 41, 42, 43, 44, 45] (by decide +kernel) (by decide +kernel)
set_option maxRecDepth 20000 in
theorem gX8_mark_X8_isPiece : GoodIn wsX8_mark (wsV RX8 116 RX8 yX8_isPiece wsX8_isPiece) := goodIn_app (goodIn_of _ (by decide +kernel)) ggX8_mark_X8_isPiece
theorem dX8_mark_0 : decode cX8_mark 0 = .ok (.iload_n 1, 1) := by decide +kernel
theorem dX8_mark_1 : decode cX8_mark 1 = .ok (.iconst 0, 1) := by decide +kernel
theorem dX8_mark_2 : decode cX8_mark 2 = .ok (.iconst 5, 1) := by decide +kernel
theorem dX8_mark_3 : decode cX8_mark 3 = .ok (.invokestatic 66, 3) := by decide +kernel
theorem dX8_mark_6 : decode cX8_mark 6 = .ok (.ifCond .eq 11, 3) := by decide +kernel
theorem dX8_mark_9 : decode cX8_mark 9 = .ok (.aload_n 0, 1) := by decide +kernel
theorem dX8_mark_10 : decode cX8_mark 10 = .ok (.iload_n 2, 1) := by decide +kernel
theorem dX8_mark_11 : decode cX8_mark 11 = .ok (.invokevirtual 116, 3) := by decide +kernel
theorem dX8_mark_14 : decode cX8_mark 14 = .ok (.ifCond .ne 6, 3) := by decide +kernel
theorem dX8_mark_17 : decode cX8_mark 17 = .ok (.ldc 129, 2) := by decide +kernel
theorem dX8_mark_19 : decode cX8_mark 19 = .ok (.ireturn, 1) := by decide +kernel
theorem dX8_mark_20 : decode cX8_mark 20 = .ok (.aload_n 0, 1) := by decide +kernel
theorem dX8_mark_21 : decode cX8_mark 21 = .ok (.getfield 41, 3) := by decide +kernel
theorem dX8_mark_24 : decode cX8_mark 24 = .ok (.iconst 2, 1) := by decide +kernel
theorem dX8_mark_25 : decode cX8_mark 25 = .ok (.iload_n 2, 1) := by decide +kernel
theorem dX8_mark_26 : decode cX8_mark 26 = .ok (.iadd, 1) := by decide +kernel
theorem dX8_mark_27 : decode cX8_mark 27 = .ok (.iaload, 1) := by decide +kernel
theorem dX8_mark_28 : decode cX8_mark 28 = .ok (.istore_n 3, 1) := by decide +kernel
theorem dX8_mark_29 : decode cX8_mark 29 = .ok (.iload_n 1, 1) := by decide +kernel
theorem dX8_mark_30 : decode cX8_mark 30 = .ok (.tableswitch 137 0 4 #[34, 46, 62, 83, 106], 34) := by decide +kernel
theorem dX8_mark_64 : decode cX8_mark 64 = .ok (.aload_n 0, 1) := by decide +kernel
theorem dX8_mark_65 : decode cX8_mark 65 = .ok (.dup, 1) := by decide +kernel
theorem dX8_mark_66 : decode cX8_mark 66 = .ok (.getfield 180, 3) := by decide +kernel
theorem dX8_mark_69 : decode cX8_mark 69 = .ok (.lconst 1, 1) := by decide +kernel
theorem dX8_mark_70 : decode cX8_mark 70 = .ok (.ladd, 1) := by decide +kernel
theorem dX8_mark_71 : decode cX8_mark 71 = .ok (.putfield 180, 3) := by decide +kernel
theorem dX8_mark_74 : decode cX8_mark 74 = .ok (.iload_n 3, 1) := by decide +kernel
theorem dX8_mark_75 : decode cX8_mark 75 = .ok (.ireturn, 1) := by decide +kernel
theorem dX8_mark_76 : decode cX8_mark 76 = .ok (.aload_n 0, 1) := by decide +kernel
theorem dX8_mark_77 : decode cX8_mark 77 = .ok (.dup, 1) := by decide +kernel
theorem dX8_mark_78 : decode cX8_mark 78 = .ok (.getfield 180, 3) := by decide +kernel
theorem dX8_mark_81 : decode cX8_mark 81 = .ok (.ldc2_w 184, 3) := by decide +kernel
theorem dX8_mark_84 : decode cX8_mark 84 = .ok (.ladd, 1) := by decide +kernel
theorem dX8_mark_85 : decode cX8_mark 85 = .ok (.putfield 180, 3) := by decide +kernel
theorem dX8_mark_88 : decode cX8_mark 88 = .ok (.iconst 2, 1) := by decide +kernel
theorem dX8_mark_89 : decode cX8_mark 89 = .ok (.iload_n 3, 1) := by decide +kernel
theorem dX8_mark_90 : decode cX8_mark 90 = .ok (.imul, 1) := by decide +kernel
theorem dX8_mark_91 : decode cX8_mark 91 = .ok (.ireturn, 1) := by decide +kernel
theorem dX8_mark_92 : decode cX8_mark 92 = .ok (.aload_n 0, 1) := by decide +kernel
theorem dX8_mark_93 : decode cX8_mark 93 = .ok (.dup, 1) := by decide +kernel
theorem dX8_mark_94 : decode cX8_mark 94 = .ok (.getfield 180, 3) := by decide +kernel
theorem dX8_mark_97 : decode cX8_mark 97 = .ok (.ldc2_w 186, 3) := by decide +kernel
theorem dX8_mark_100 : decode cX8_mark 100 = .ok (.ladd, 1) := by decide +kernel
theorem dX8_mark_101 : decode cX8_mark 101 = .ok (.putfield 180, 3) := by decide +kernel
theorem dX8_mark_104 : decode cX8_mark 104 = .ok (.iload_n 3, 1) := by decide +kernel
theorem dX8_mark_105 : decode cX8_mark 105 = .ok (.aload_n 0, 1) := by decide +kernel
theorem dX8_mark_106 : decode cX8_mark 106 = .ok (.getfield 23, 3) := by decide +kernel
theorem dX8_mark_109 : decode cX8_mark 109 = .ok (.iload_n 2, 1) := by decide +kernel
theorem dX8_mark_110 : decode cX8_mark 110 = .ok (.iaload, 1) := by decide +kernel
theorem dX8_mark_111 : decode cX8_mark 111 = .ok (.isub, 1) := by decide +kernel
theorem dX8_mark_112 : decode cX8_mark 112 = .ok (.ireturn, 1) := by decide +kernel
theorem dX8_mark_113 : decode cX8_mark 113 = .ok (.aload_n 0, 1) := by decide +kernel
theorem dX8_mark_114 : decode cX8_mark 114 = .ok (.dup, 1) := by decide +kernel
theorem dX8_mark_115 : decode cX8_mark 115 = .ok (.getfield 180, 3) := by decide +kernel
theorem dX8_mark_118 : decode cX8_mark 118 = .ok (.ldc2_w 188, 3) := by decide +kernel
theorem dX8_mark_121 : decode cX8_mark 121 = .ok (.ladd, 1) := by decide +kernel
theorem dX8_mark_122 : decode cX8_mark 122 = .ok (.putfield 180, 3) := by decide +kernel
theorem dX8_mark_125 : decode cX8_mark 125 = .ok (.iconst 2, 1) := by decide +kernel
theorem dX8_mark_126 : decode cX8_mark 126 = .ok (.iload_n 3, 1) := by decide +kernel
theorem dX8_mark_127 : decode cX8_mark 127 = .ok (.imul, 1) := by decide +kernel
theorem dX8_mark_128 : decode cX8_mark 128 = .ok (.aload_n 0, 1) := by decide +kernel
theorem dX8_mark_129 : decode cX8_mark 129 = .ok (.getfield 20, 3) := by decide +kernel
theorem dX8_mark_132 : decode cX8_mark 132 = .ok (.iload_n 2, 1) := by decide +kernel
theorem dX8_mark_133 : decode cX8_mark 133 = .ok (.iaload, 1) := by decide +kernel
theorem dX8_mark_134 : decode cX8_mark 134 = .ok (.iadd, 1) := by decide +kernel
theorem dX8_mark_135 : decode cX8_mark 135 = .ok (.ireturn, 1) := by decide +kernel
theorem dX8_mark_136 : decode cX8_mark 136 = .ok (.aload_n 0, 1) := by decide +kernel
theorem dX8_mark_137 : decode cX8_mark 137 = .ok (.dup, 1) := by decide +kernel
theorem dX8_mark_138 : decode cX8_mark 138 = .ok (.getfield 180, 3) := by decide +kernel
theorem dX8_mark_141 : decode cX8_mark 141 = .ok (.ldc2_w 190, 3) := by decide +kernel
theorem dX8_mark_144 : decode cX8_mark 144 = .ok (.ladd, 1) := by decide +kernel
theorem dX8_mark_145 : decode cX8_mark 145 = .ok (.putfield 180, 3) := by decide +kernel
theorem dX8_mark_148 : decode cX8_mark 148 = .ok (.iload_n 3, 1) := by decide +kernel
theorem dX8_mark_149 : decode cX8_mark 149 = .ok (.aload_n 0, 1) := by decide +kernel
theorem dX8_mark_150 : decode cX8_mark 150 = .ok (.getfield 23, 3) := by decide +kernel
theorem dX8_mark_153 : decode cX8_mark 153 = .ok (.iload_n 2, 1) := by decide +kernel
theorem dX8_mark_154 : decode cX8_mark 154 = .ok (.iaload, 1) := by decide +kernel
theorem dX8_mark_155 : decode cX8_mark 155 = .ok (.isub, 1) := by decide +kernel
theorem dX8_mark_156 : decode cX8_mark 156 = .ok (.aload_n 0, 1) := by decide +kernel
theorem dX8_mark_157 : decode cX8_mark 157 = .ok (.getfield 41, 3) := by decide +kernel
theorem dX8_mark_160 : decode cX8_mark 160 = .ok (.bipush 8, 2) := by decide +kernel
theorem dX8_mark_162 : decode cX8_mark 162 = .ok (.iload_n 2, 1) := by decide +kernel
theorem dX8_mark_163 : decode cX8_mark 163 = .ok (.iadd, 1) := by decide +kernel
theorem dX8_mark_164 : decode cX8_mark 164 = .ok (.iaload, 1) := by decide +kernel
theorem dX8_mark_165 : decode cX8_mark 165 = .ok (.iadd, 1) := by decide +kernel
theorem dX8_mark_166 : decode cX8_mark 166 = .ok (.ireturn, 1) := by decide +kernel
theorem dX8_mark_167 : decode cX8_mark 167 = .ok (.aload_n 0, 1) := by decide +kernel
theorem dX8_mark_168 : decode cX8_mark 168 = .ok (.dup, 1) := by decide +kernel
theorem dX8_mark_169 : decode cX8_mark 169 = .ok (.getfield 180, 3) := by decide +kernel
theorem dX8_mark_172 : decode cX8_mark 172 = .ok (.ldc2_w 192, 3) := by decide +kernel
theorem dX8_mark_175 : decode cX8_mark 175 = .ok (.ladd, 1) := by decide +kernel
theorem dX8_mark_176 : decode cX8_mark 176 = .ok (.putfield 180, 3) := by decide +kernel
theorem dX8_mark_179 : decode cX8_mark 179 = .ok (.iload_n 3, 1) := by decide +kernel
theorem dX8_mark_180 : decode cX8_mark 180 = .ok (.aload_n 0, 1) := by decide +kernel
theorem dX8_mark_181 : decode cX8_mark 181 = .ok (.getfield 41, 3) := by decide +kernel
theorem dX8_mark_184 : decode cX8_mark 184 = .ok (.iconst 0, 1) := by decide +kernel
theorem dX8_mark_185 : decode cX8_mark 185 = .ok (.iaload, 1) := by decide +kernel
theorem dX8_mark_186 : decode cX8_mark 186 = .ok (.isub, 1) := by decide +kernel
theorem dX8_mark_187 : decode cX8_mark 187 = .ok (.ireturn, 1) := by decide +kernel
set_option maxRecDepth 20000 in
theorem ggX8_keep_X8_in : GoodIn wsX8_keep wsX8_in := goodIn_r _ [6] (by decide +kernel) (by decide +kernel)
set_option maxRecDepth 20000 in
theorem gX8_keep_X8_in : GoodIn wsX8_keep (va_wsS RX8 66 yX8_in wsX8_in) := goodIn_app (goodIn_of _ (by decide +kernel)) ggX8_keep_X8_in
set_option maxRecDepth 20000 in
theorem ggX8_keep_X8_copy : GoodIn wsX8_keep wsX8_copy := goodIn_r _ [10, 2, 11, 12, 13, 14, 15, 16, 17, 18, 19, 20, 21, 22, 23, 24, 25, 26, 27, 28, 29, 30, 31, 32, 33, 34, 35, 36] (by decide +kernel) (by decide +kernel)
set_option maxRecDepth 20000 in
theorem gX8_keep_X8_copy : GoodIn wsX8_keep (wsV RX8 143 RX8 yX8_copy wsX8_copy) := goodIn_app (goodIn_of _ (by decide +kernel)) ggX8_keep_X8_copy
theorem dX8_keep_0 : decode cX8_keep 0 = .ok (.iload_n 1, 1) := by decide +kernel
theorem dX8_keep_1 : decode cX8_keep 1 = .ok (.iconst 0, 1) := by decide +kernel
theorem dX8_keep_2 : decode cX8_keep 2 = .ok (.iconst 1, 1) := by decide +kernel
theorem dX8_keep_3 : decode cX8_keep 3 = .ok (.invokestatic 66, 3) := by decide +kernel
theorem dX8_keep_6 : decode cX8_keep 6 = .ok (.ifCond .ne 5, 3) := by decide +kernel
theorem dX8_keep_9 : decode cX8_keep 9 = .ok (.iconst (-1), 1) := by decide +kernel
theorem dX8_keep_10 : decode cX8_keep 10 = .ok (.ireturn, 1) := by decide +kernel
theorem dX8_keep_11 : decode cX8_keep 11 = .ok (.aload_n 0, 1) := by decide +kernel
theorem dX8_keep_12 : decode cX8_keep 12 = .ok (.iconst 0, 1) := by decide +kernel
theorem dX8_keep_13 : decode cX8_keep 13 = .ok (.bipush 26, 2) := by decide +kernel
theorem dX8_keep_15 : decode cX8_keep 15 = .ok (.iconst 2, 1) := by decide +kernel
theorem dX8_keep_16 : decode cX8_keep 16 = .ok (.iload_n 1, 1) := by decide +kernel
theorem dX8_keep_17 : decode cX8_keep 17 = .ok (.iadd, 1) := by decide +kernel
theorem dX8_keep_18 : decode cX8_keep 18 = .ok (.imul, 1) := by decide +kernel
theorem dX8_keep_19 : decode cX8_keep 19 = .ok (.invokevirtual 143, 3) := by decide +kernel
theorem dX8_keep_22 : decode cX8_keep 22 = .ok (.aload_n 0, 1) := by decide +kernel
theorem dX8_keep_23 : decode cX8_keep 23 = .ok (.getfield 44, 3) := by decide +kernel
theorem dX8_keep_26 : decode cX8_keep 26 = .ok (.iload_n 1, 1) := by decide +kernel
theorem dX8_keep_27 : decode cX8_keep 27 = .ok (.iconst 1, 1) := by decide +kernel
theorem dX8_keep_28 : decode cX8_keep 28 = .ok (.bastore, 1) := by decide +kernel
theorem dX8_keep_29 : decode cX8_keep 29 = .ok (.aload_n 0, 1) := by decide +kernel
theorem dX8_keep_30 : decode cX8_keep 30 = .ok (.getfield 41, 3) := by decide +kernel
theorem dX8_keep_33 : decode cX8_keep 33 = .ok (.iconst 0, 1) := by decide +kernel
theorem dX8_keep_34 : decode cX8_keep 34 = .ok (.iaload, 1) := by decide +kernel
theorem dX8_keep_35 : decode cX8_keep 35 = .ok (.ireturn, 1) := by decide +kernel
set_option maxRecDepth 20000 in
theorem ggX8_back_X8_in : GoodIn wsX8_back wsX8_in := goodIn_r _ [6] (by decide +kernel) (by decide +kernel)
set_option maxRecDepth 20000 in
theorem gX8_back_X8_in : GoodIn wsX8_back (va_wsS RX8 66 yX8_in wsX8_in) := goodIn_app (goodIn_of _ (by decide +kernel)) ggX8_back_X8_in
set_option maxRecDepth 20000 in
theorem ggX8_back_X8_copy : GoodIn wsX8_back wsX8_copy := goodIn_r _ [10, 2, 11, 12, 13, 14, 15, 16, 17, 18, 19, 20, 21, 22, 23, 24, 25, 26, 27, 28, 29, 30, 31, 32, 33, 34, 35, 36] (by decide +kernel) (by decide +kernel)
set_option maxRecDepth 20000 in
theorem gX8_back_X8_copy : GoodIn wsX8_back (wsV RX8 143 RX8 yX8_copy wsX8_copy) := goodIn_app (goodIn_of _ (by decide +kernel)) ggX8_back_X8_copy
theorem dX8_back_0 : decode cX8_back 0 = .ok (.iload_n 1, 1) := by decide +kernel
theorem dX8_back_1 : decode cX8_back 1 = .ok (.iconst 0, 1) := by decide +kernel
theorem dX8_back_2 : decode cX8_back 2 = .ok (.iconst 1, 1) := by decide +kernel
theorem dX8_back_3 : decode cX8_back 3 = .ok (.invokestatic 66, 3) := by decide +kernel
theorem dX8_back_6 : decode cX8_back 6 = .ok (.ifCond .ne 5, 3) := by decide +kernel
theorem dX8_back_9 : decode cX8_back 9 = .ok (.iconst (-1), 1) := by decide +kernel
theorem dX8_back_10 : decode cX8_back 10 = .ok (.ireturn, 1) := by decide +kernel
theorem dX8_back_11 : decode cX8_back 11 = .ok (.aload_n 0, 1) := by decide +kernel
theorem dX8_back_12 : decode cX8_back 12 = .ok (.getfield 44, 3) := by decide +kernel
theorem dX8_back_15 : decode cX8_back 15 = .ok (.iload_n 1, 1) := by decide +kernel
theorem dX8_back_16 : decode cX8_back 16 = .ok (.baload, 1) := by decide +kernel
theorem dX8_back_17 : decode cX8_back 17 = .ok (.ifCond .ne 6, 3) := by decide +kernel
theorem dX8_back_20 : decode cX8_back 20 = .ok (.bipush (-2), 2) := by decide +kernel
theorem dX8_back_22 : decode cX8_back 22 = .ok (.ireturn, 1) := by decide +kernel
theorem dX8_back_23 : decode cX8_back 23 = .ok (.aload_n 0, 1) := by decide +kernel
theorem dX8_back_24 : decode cX8_back 24 = .ok (.bipush 26, 2) := by decide +kernel
theorem dX8_back_26 : decode cX8_back 26 = .ok (.iconst 2, 1) := by decide +kernel
theorem dX8_back_27 : decode cX8_back 27 = .ok (.iload_n 1, 1) := by decide +kernel
theorem dX8_back_28 : decode cX8_back 28 = .ok (.iadd, 1) := by decide +kernel
theorem dX8_back_29 : decode cX8_back 29 = .ok (.imul, 1) := by decide +kernel
theorem dX8_back_30 : decode cX8_back 30 = .ok (.iconst 0, 1) := by decide +kernel
theorem dX8_back_31 : decode cX8_back 31 = .ok (.invokevirtual 143, 3) := by decide +kernel
theorem dX8_back_34 : decode cX8_back 34 = .ok (.aload_n 0, 1) := by decide +kernel
theorem dX8_back_35 : decode cX8_back 35 = .ok (.getfield 41, 3) := by decide +kernel
theorem dX8_back_38 : decode cX8_back 38 = .ok (.iconst 0, 1) := by decide +kernel
theorem dX8_back_39 : decode cX8_back 39 = .ok (.iaload, 1) := by decide +kernel
theorem dX8_back_40 : decode cX8_back 40 = .ok (.ireturn, 1) := by decide +kernel
set_option maxRecDepth 20000 in
theorem ggX8_count_X8_rackedNow : GoodIn wsX8_count wsX8_rackedNow := goodIn_r _ [10, 1, 11, 12, 13, 14, 15, 16, 17, 18, 19, 20, 21, 22, 23, 24, 25, 26, 27, 28, 29, 30, 31, 32, 33, 34, 35, 36, 37] (by decide +kernel) (by decide +kernel)
set_option maxRecDepth 20000 in
theorem gX8_count_X8_rackedNow : GoodIn wsX8_count (wsV RX8 130 RX8 yX8_rackedNow wsX8_rackedNow) := goodIn_app (goodIn_of _ (by decide +kernel)) ggX8_count_X8_rackedNow
theorem dX8_count_0 : decode cX8_count 0 = .ok (.iload_n 1, 1) := by decide +kernel
theorem dX8_count_1 : decode cX8_count 1 = .ok (.tableswitch 75 0 5 #[39, 46, 53, 60, 65, 70], 39) := by decide +kernel
theorem dX8_count_40 : decode cX8_count 40 = .ok (.aload_n 0, 1) := by decide +kernel
theorem dX8_count_41 : decode cX8_count 41 = .ok (.getfield 13, 3) := by decide +kernel
theorem dX8_count_44 : decode cX8_count 44 = .ok (.iconst 0, 1) := by decide +kernel
theorem dX8_count_45 : decode cX8_count 45 = .ok (.iaload, 1) := by decide +kernel
theorem dX8_count_46 : decode cX8_count 46 = .ok (.ireturn, 1) := by decide +kernel
theorem dX8_count_47 : decode cX8_count 47 = .ok (.aload_n 0, 1) := by decide +kernel
theorem dX8_count_48 : decode cX8_count 48 = .ok (.getfield 26, 3) := by decide +kernel
theorem dX8_count_51 : decode cX8_count 51 = .ok (.iconst 0, 1) := by decide +kernel
theorem dX8_count_52 : decode cX8_count 52 = .ok (.iaload, 1) := by decide +kernel
theorem dX8_count_53 : decode cX8_count 53 = .ok (.ireturn, 1) := by decide +kernel
theorem dX8_count_54 : decode cX8_count 54 = .ok (.aload_n 0, 1) := by decide +kernel
theorem dX8_count_55 : decode cX8_count 55 = .ok (.getfield 35, 3) := by decide +kernel
theorem dX8_count_58 : decode cX8_count 58 = .ok (.iconst 0, 1) := by decide +kernel
theorem dX8_count_59 : decode cX8_count 59 = .ok (.iaload, 1) := by decide +kernel
theorem dX8_count_60 : decode cX8_count 60 = .ok (.ireturn, 1) := by decide +kernel
theorem dX8_count_61 : decode cX8_count 61 = .ok (.aload_n 0, 1) := by decide +kernel
theorem dX8_count_62 : decode cX8_count 62 = .ok (.invokevirtual 130, 3) := by decide +kernel
theorem dX8_count_65 : decode cX8_count 65 = .ok (.ireturn, 1) := by decide +kernel
theorem dX8_count_66 : decode cX8_count 66 = .ok (.aload_n 0, 1) := by decide +kernel
theorem dX8_count_67 : decode cX8_count 67 = .ok (.getfield 174, 3) := by decide +kernel
theorem dX8_count_70 : decode cX8_count 70 = .ok (.ireturn, 1) := by decide +kernel
theorem dX8_count_71 : decode cX8_count 71 = .ok (.aload_n 0, 1) := by decide +kernel
theorem dX8_count_72 : decode cX8_count 72 = .ok (.getfield 70, 3) := by decide +kernel
theorem dX8_count_75 : decode cX8_count 75 = .ok (.ireturn, 1) := by decide +kernel
theorem dX8_count_76 : decode cX8_count 76 = .ok (.iconst (-1), 1) := by decide +kernel
theorem dX8_count_77 : decode cX8_count 77 = .ok (.ireturn, 1) := by decide +kernel
theorem dX8_trace_0 : decode cX8_trace 0 = .ok (.aload_n 0, 1) := by decide +kernel
theorem dX8_trace_1 : decode cX8_trace 1 = .ok (.getfield 180, 3) := by decide +kernel
theorem dX8_trace_4 : decode cX8_trace 4 = .ok (.lreturn, 1) := by decide +kernel
theorem dJ9_max_7cf53_0 : decode cJ9_max_7cf53 0 = .ok (.iload_n 0, 1) := by decide +kernel
theorem dJ9_max_7cf53_1 : decode cJ9_max_7cf53 1 = .ok (.iload_n 1, 1) := by decide +kernel
theorem dJ9_max_7cf53_2 : decode cJ9_max_7cf53 2 = .ok (.if_icmp .lt 7, 3) := by decide +kernel
theorem dJ9_max_7cf53_5 : decode cJ9_max_7cf53 5 = .ok (.iload_n 0, 1) := by decide +kernel
theorem dJ9_max_7cf53_6 : decode cJ9_max_7cf53 6 = .ok (.goto 4, 3) := by decide +kernel
theorem dJ9_max_7cf53_9 : decode cJ9_max_7cf53 9 = .ok (.iload_n 1, 1) := by decide +kernel
theorem dJ9_max_7cf53_10 : decode cJ9_max_7cf53 10 = .ok (.ireturn, 1) := by decide +kernel
theorem dJ9_min_7cf53_0 : decode cJ9_min_7cf53 0 = .ok (.iload_n 0, 1) := by decide +kernel
theorem dJ9_min_7cf53_1 : decode cJ9_min_7cf53 1 = .ok (.iload_n 1, 1) := by decide +kernel
theorem dJ9_min_7cf53_2 : decode cJ9_min_7cf53 2 = .ok (.if_icmp .gt 7, 3) := by decide +kernel
theorem dJ9_min_7cf53_5 : decode cJ9_min_7cf53 5 = .ok (.iload_n 0, 1) := by decide +kernel
theorem dJ9_min_7cf53_6 : decode cJ9_min_7cf53 6 = .ok (.goto 4, 3) := by decide +kernel
theorem dJ9_min_7cf53_9 : decode cJ9_min_7cf53 9 = .ok (.iload_n 1, 1) := by decide +kernel
theorem dJ9_min_7cf53_10 : decode cJ9_min_7cf53 10 = .ok (.ireturn, 1) := by decide +kernel
set_option maxRecDepth 20000 in
theorem ggJ0_length_8abf5_J0_coder_7d493 : GoodIn wsJ0_length_8abf5 wsJ0_coder_7d493 := goodIn_r _ [6, 7, 8] (by decide +kernel) (by decide +kernel)
set_option maxRecDepth 20000 in
theorem gJ0_length_8abf5_J0_coder_7d493 : GoodIn wsJ0_length_8abf5 (wsV RJ0 335 RJ0 yJ0_coder_7d493 wsJ0_coder_7d493) := goodIn_app (goodIn_of _ (by decide +kernel)) ggJ0_length_8abf5_J0_coder_7d493
theorem dJ0_length_8abf5_0 : decode cJ0_length_8abf5 0 = .ok (.aload_n 0, 1) := by decide +kernel
theorem dJ0_length_8abf5_1 : decode cJ0_length_8abf5 1 = .ok (.getfield 9, 3) := by decide +kernel
theorem dJ0_length_8abf5_4 : decode cJ0_length_8abf5 4 = .ok (.arraylength, 1) := by decide +kernel
theorem dJ0_length_8abf5_5 : decode cJ0_length_8abf5 5 = .ok (.aload_n 0, 1) := by decide +kernel
theorem dJ0_length_8abf5_6 : decode cJ0_length_8abf5 6 = .ok (.invokevirtual 335, 3) := by decide +kernel
theorem dJ0_length_8abf5_9 : decode cJ0_length_8abf5 9 = .ok (.ishr, 1) := by decide +kernel
theorem dJ0_length_8abf5_10 : decode cJ0_length_8abf5 10 = .ok (.ireturn, 1) := by decide +kernel
set_option maxRecDepth 20000 in
theorem ggJ0_charAt_5068e_J0_isLatin1_aae02 : GoodIn wsJ0_charAt_5068e wsJ0_isLatin1_aae02 := goodIn_r _ [6, 7, 8] (by decide +kernel) (by decide +kernel)
set_option maxRecDepth 20000 in
theorem gJ0_charAt_5068e_J0_isLatin1_aae02 : GoodIn wsJ0_charAt_5068e (wsV RJ0 492 RJ0 yJ0_isLatin1_aae02 wsJ0_isLatin1_aae02) := goodIn_app (goodIn_of _ (by decide +kernel)) ggJ0_charAt_5068e_J0_isLatin1_aae02
set_option maxRecDepth 20000 in
theorem ggJ0_charAt_5068e_J1_charAt_3b067 : GoodIn wsJ0_charAt_5068e wsJ1_charAt_3b067 := goodIn_r _ [12, 13, 14, 5, 15, 16, 17, 18, 19, 20] (by decide +kernel) (by decide +kernel)
set_option maxRecDepth 20000 in
theorem gJ0_charAt_5068e_J1_charAt_3b067 : GoodIn wsJ0_charAt_5068e (va_wsS RJ0 495 yJ1_charAt_3b067 wsJ1_charAt_3b067) := goodIn_app (goodIn_of _ (by decide +kernel)) ggJ0_charAt_5068e_J1_charAt_3b067
set_option maxRecDepth 20000 in
theorem ggJ0_charAt_5068e_J2_charAt_3b067 : GoodIn wsJ0_charAt_5068e wsJ2_charAt_3b067 := goodIn_r _ [24, 25, 26, 23, 27, 28, 29, 30, 31, 14, 5, 15, 16, 17, 18, 19, 20, 32, 33, 34, 35, 36, 37] (by decide +kernel) (by decide +kernel)
set_option maxRecDepth 20000 in
theorem gJ0_charAt_5068e_J2_charAt_3b067 : GoodIn wsJ0_charAt_5068e (va_wsS RJ0 498 yJ2_charAt_3b067 wsJ2_charAt_3b067) := goodIn_app (goodIn_of _ (by decide +kernel)) ggJ0_charAt_5068e_J2_charAt_3b067
theorem dJ0_charAt_5068e_0 : decode cJ0_charAt_5068e 0 = .ok (.aload_n 0, 1) := by decide +kernel
theorem dJ0_charAt_5068e_1 : decode cJ0_charAt_5068e 1 = .ok (.invokevirtual 492, 3) := by decide +kernel
theorem dJ0_charAt_5068e_4 : decode cJ0_charAt_5068e 4 = .ok (.ifCond .eq 12, 3) := by decide +kernel
theorem dJ0_charAt_5068e_7 : decode cJ0_charAt_5068e 7 = .ok (.aload_n 0, 1) := by decide +kernel
theorem dJ0_charAt_5068e_8 : decode cJ0_charAt_5068e 8 = .ok (.getfield 9, 3) := by decide +kernel
theorem dJ0_charAt_5068e_11 : decode cJ0_charAt_5068e 11 = .ok (.iload_n 1, 1) := by decide +kernel
theorem dJ0_charAt_5068e_12 : decode cJ0_charAt_5068e 12 = .ok (.invokestatic 495, 3) := by decide +kernel
theorem dJ0_charAt_5068e_15 : decode cJ0_charAt_5068e 15 = .ok (.ireturn, 1) := by decide +kernel
theorem dJ0_charAt_5068e_16 : decode cJ0_charAt_5068e 16 = .ok (.aload_n 0, 1) := by decide +kernel
theorem dJ0_charAt_5068e_17 : decode cJ0_charAt_5068e 17 = .ok (.getfield 9, 3) := by decide +kernel
theorem dJ0_charAt_5068e_20 : decode cJ0_charAt_5068e 20 = .ok (.iload_n 1, 1) := by decide +kernel
theorem dJ0_charAt_5068e_21 : decode cJ0_charAt_5068e 21 = .ok (.invokestatic 498, 3) := by decide +kernel
theorem dJ0_charAt_5068e_24 : decode cJ0_charAt_5068e 24 = .ok (.ireturn, 1) := by decide +kernel
theorem dJ0_coder_7d493_0 : decode cJ0_coder_7d493 0 = .ok (.getstatic 38, 3) := by decide +kernel
theorem dJ0_coder_7d493_3 : decode cJ0_coder_7d493 3 = .ok (.ifCond .eq 10, 3) := by decide +kernel
theorem dJ0_coder_7d493_6 : decode cJ0_coder_7d493 6 = .ok (.aload_n 0, 1) := by decide +kernel
theorem dJ0_coder_7d493_7 : decode cJ0_coder_7d493 7 = .ok (.getfield 15, 3) := by decide +kernel
theorem dJ0_coder_7d493_10 : decode cJ0_coder_7d493 10 = .ok (.goto 4, 3) := by decide +kernel
theorem dJ0_coder_7d493_13 : decode cJ0_coder_7d493 13 = .ok (.iconst 1, 1) := by decide +kernel
theorem dJ0_coder_7d493_14 : decode cJ0_coder_7d493 14 = .ok (.ireturn, 1) := by decide +kernel
theorem dJ0_isLatin1_aae02_0 : decode cJ0_isLatin1_aae02 0 = .ok (.getstatic 38, 3) := by decide +kernel
theorem dJ0_isLatin1_aae02_3 : decode cJ0_isLatin1_aae02 3 = .ok (.ifCond .eq 14, 3) := by decide +kernel
theorem dJ0_isLatin1_aae02_6 : decode cJ0_isLatin1_aae02 6 = .ok (.aload_n 0, 1) := by decide +kernel
theorem dJ0_isLatin1_aae02_7 : decode cJ0_isLatin1_aae02 7 = .ok (.getfield 15, 3) := by decide +kernel
theorem dJ0_isLatin1_aae02_10 : decode cJ0_isLatin1_aae02 10 = .ok (.ifCond .ne 7, 3) := by decide +kernel
theorem dJ0_isLatin1_aae02_13 : decode cJ0_isLatin1_aae02 13 = .ok (.iconst 1, 1) := by decide +kernel
theorem dJ0_isLatin1_aae02_14 : decode cJ0_isLatin1_aae02 14 = .ok (.goto 4, 3) := by decide +kernel
theorem dJ0_isLatin1_aae02_17 : decode cJ0_isLatin1_aae02 17 = .ok (.iconst 0, 1) := by decide +kernel
theorem dJ0_isLatin1_aae02_18 : decode cJ0_isLatin1_aae02 18 = .ok (.ireturn, 1) := by decide +kernel
set_option maxRecDepth 20000 in
theorem ggJ0_checkIndex_df160_J3_checkIndex_8e157 : GoodIn wsJ0_checkIndex_df160 wsJ3_checkIndex_8e157 := goodIn_r _ [5] (by decide +kernel) (by decide +kernel)
set_option maxRecDepth 20000 in
theorem gJ0_checkIndex_df160_J3_checkIndex_8e157 : GoodIn wsJ0_checkIndex_df160 (va_wsS RJ0 1059 yJ3_checkIndex_8e157 wsJ3_checkIndex_8e157) := goodIn_app (goodIn_of _ (by decide +kernel)) ggJ0_checkIndex_df160_J3_checkIndex_8e157
theorem dJ0_checkIndex_df160_0 : decode cJ0_checkIndex_df160 0 = .ok (.iload_n 0, 1) := by decide +kernel
theorem dJ0_checkIndex_df160_1 : decode cJ0_checkIndex_df160 1 = .ok (.iload_n 1, 1) := by decide +kernel
theorem dJ0_checkIndex_df160_2 : decode cJ0_checkIndex_df160 2 = .ok (.getstatic 1053, 3) := by decide +kernel
theorem dJ0_checkIndex_df160_5 : decode cJ0_checkIndex_df160 5 = .ok (.invokestatic 1059, 3) := by decide +kernel
theorem dJ0_checkIndex_df160_8 : decode cJ0_checkIndex_df160 8 = .ok (.pop, 1) := by decide +kernel
theorem dJ0_checkIndex_df160_9 : decode cJ0_checkIndex_df160 9 = .ok (.return_, 1) := by decide +kernel
set_option maxRecDepth 20000 in
theorem ggJ1_charAt_3b067_J0_checkIndex_df160 : GoodIn wsJ1_charAt_3b067 wsJ0_checkIndex_df160 := goodIn_r _ [4, 5, 6, 7, 8, 9] (by decide +kernel) (by decide +kernel)
set_option maxRecDepth 20000 in
theorem gJ1_charAt_3b067_J0_checkIndex_df160 : GoodIn wsJ1_charAt_3b067 (va_wsS RJ1 9 yJ0_checkIndex_df160 wsJ0_checkIndex_df160) := goodIn_app (goodIn_of _ (by decide +kernel)) ggJ1_charAt_3b067_J0_checkIndex_df160
theorem dJ1_charAt_3b067_0 : decode cJ1_charAt_3b067 0 = .ok (.iload_n 1, 1) := by decide +kernel
theorem dJ1_charAt_3b067_1 : decode cJ1_charAt_3b067 1 = .ok (.aload_n 0, 1) := by decide +kernel
theorem dJ1_charAt_3b067_2 : decode cJ1_charAt_3b067 2 = .ok (.arraylength, 1) := by decide +kernel
theorem dJ1_charAt_3b067_3 : decode cJ1_charAt_3b067 3 = .ok (.invokestatic 9, 3) := by decide +kernel
theorem dJ1_charAt_3b067_6 : decode cJ1_charAt_3b067 6 = .ok (.aload_n 0, 1) := by decide +kernel
theorem dJ1_charAt_3b067_7 : decode cJ1_charAt_3b067 7 = .ok (.iload_n 1, 1) := by decide +kernel
theorem dJ1_charAt_3b067_8 : decode cJ1_charAt_3b067 8 = .ok (.baload, 1) := by decide +kernel
theorem dJ1_charAt_3b067_9 : decode cJ1_charAt_3b067 9 = .ok (.sipush 255, 3) := by decide +kernel
theorem dJ1_charAt_3b067_12 : decode cJ1_charAt_3b067 12 = .ok (.iand, 1) := by decide +kernel
theorem dJ1_charAt_3b067_13 : decode cJ1_charAt_3b067 13 = .ok (.i2c, 1) := by decide +kernel
theorem dJ1_charAt_3b067_14 : decode cJ1_charAt_3b067 14 = .ok (.ireturn, 1) := by decide +kernel
set_option maxRecDepth 20000 in
theorem ggJ2_getChar_3b067_J2_length_9d52b : GoodIn wsJ2_getChar_3b067 wsJ2_length_9d52b := goodIn_r _ [7] (by decide +kernel) (by decide +kernel)
set_option maxRecDepth 20000 in
theorem gJ2_getChar_3b067_J2_length_9d52b : GoodIn wsJ2_getChar_3b067 (va_wsS RJ2 48 yJ2_length_9d52b wsJ2_length_9d52b) := goodIn_app (goodIn_of _ (by decide +kernel)) ggJ2_getChar_3b067_J2_length_9d52b
theorem dJ2_getChar_3b067_0 : decode cJ2_getChar_3b067 0 = .ok (.getstatic 44, 3) := by decide +kernel
theorem dJ2_getChar_3b067_3 : decode cJ2_getChar_3b067 3 = .ok (.ifCond .ne 25, 3) := by decide +kernel
theorem dJ2_getChar_3b067_6 : decode cJ2_getChar_3b067 6 = .ok (.iload_n 1, 1) := by decide +kernel
theorem dJ2_getChar_3b067_7 : decode cJ2_getChar_3b067 7 = .ok (.ifCond .lt 11, 3) := by decide +kernel
theorem dJ2_getChar_3b067_10 : decode cJ2_getChar_3b067 10 = .ok (.iload_n 1, 1) := by decide +kernel
theorem dJ2_getChar_3b067_11 : decode cJ2_getChar_3b067 11 = .ok (.aload_n 0, 1) := by decide +kernel
theorem dJ2_getChar_3b067_12 : decode cJ2_getChar_3b067 12 = .ok (.invokestatic 48, 3) := by decide +kernel
theorem dJ2_getChar_3b067_15 : decode cJ2_getChar_3b067 15 = .ok (.if_icmp .lt 13, 3) := by decide +kernel
theorem dJ2_getChar_3b067_18 : decode cJ2_getChar_3b067 18 = .ok (.new 52, 3) := by decide +kernel
theorem dJ2_getChar_3b067_21 : decode cJ2_getChar_3b067 21 = .ok (.dup, 1) := by decide +kernel
theorem dJ2_getChar_3b067_22 : decode cJ2_getChar_3b067 22 = .ok (.ldc 54, 2) := by decide +kernel
theorem dJ2_getChar_3b067_24 : decode cJ2_getChar_3b067 24 = .ok (.invokespecial 56, 3) := by decide +kernel
theorem dJ2_getChar_3b067_27 : decode cJ2_getChar_3b067 27 = .ok (.athrow, 1) := by decide +kernel
theorem dJ2_getChar_3b067_28 : decode cJ2_getChar_3b067 28 = .ok (.iload_n 1, 1) := by decide +kernel
theorem dJ2_getChar_3b067_29 : decode cJ2_getChar_3b067 29 = .ok (.iconst 1, 1) := by decide +kernel
theorem dJ2_getChar_3b067_30 : decode cJ2_getChar_3b067 30 = .ok (.ishl, 1) := by decide +kernel
theorem dJ2_getChar_3b067_31 : decode cJ2_getChar_3b067 31 = .ok (.istore_n 1, 1) := by decide +kernel
theorem dJ2_getChar_3b067_32 : decode cJ2_getChar_3b067 32 = .ok (.aload_n 0, 1) := by decide +kernel
theorem dJ2_getChar_3b067_33 : decode cJ2_getChar_3b067 33 = .ok (.iload_n 1, 1) := by decide +kernel
theorem dJ2_getChar_3b067_34 : decode cJ2_getChar_3b067 34 = .ok (.iinc 1 1, 3) := by decide +kernel
theorem dJ2_getChar_3b067_37 : decode cJ2_getChar_3b067 37 = .ok (.baload, 1) := by decide +kernel
theorem dJ2_getChar_3b067_38 : decode cJ2_getChar_3b067 38 = .ok (.sipush 255, 3) := by decide +kernel
theorem dJ2_getChar_3b067_41 : decode cJ2_getChar_3b067 41 = .ok (.iand, 1) := by decide +kernel
theorem dJ2_getChar_3b067_42 : decode cJ2_getChar_3b067 42 = .ok (.getstatic 59, 3) := by decide +kernel
theorem dJ2_getChar_3b067_45 : decode cJ2_getChar_3b067 45 = .ok (.ishl, 1) := by decide +kernel
theorem dJ2_getChar_3b067_46 : decode cJ2_getChar_3b067 46 = .ok (.aload_n 0, 1) := by decide +kernel
theorem dJ2_getChar_3b067_47 : decode cJ2_getChar_3b067 47 = .ok (.iload_n 1, 1) := by decide +kernel
theorem dJ2_getChar_3b067_48 : decode cJ2_getChar_3b067 48 = .ok (.baload, 1) := by decide +kernel
theorem dJ2_getChar_3b067_49 : decode cJ2_getChar_3b067 49 = .ok (.sipush 255, 3) := by decide +kernel
theorem dJ2_getChar_3b067_52 : decode cJ2_getChar_3b067 52 = .ok (.iand, 1) := by decide +kernel
theorem dJ2_getChar_3b067_53 : decode cJ2_getChar_3b067 53 = .ok (.getstatic 63, 3) := by decide +kernel
theorem dJ2_getChar_3b067_56 : decode cJ2_getChar_3b067 56 = .ok (.ishl, 1) := by decide +kernel
theorem dJ2_getChar_3b067_57 : decode cJ2_getChar_3b067 57 = .ok (.ior, 1) := by decide +kernel
theorem dJ2_getChar_3b067_58 : decode cJ2_getChar_3b067 58 = .ok (.i2c, 1) := by decide +kernel
theorem dJ2_getChar_3b067_59 : decode cJ2_getChar_3b067 59 = .ok (.ireturn, 1) := by decide +kernel
theorem dJ2_length_9d52b_0 : decode cJ2_length_9d52b 0 = .ok (.aload_n 0, 1) := by decide +kernel
theorem dJ2_length_9d52b_1 : decode cJ2_length_9d52b 1 = .ok (.arraylength, 1) := by decide +kernel
theorem dJ2_length_9d52b_2 : decode cJ2_length_9d52b 2 = .ok (.iconst 1, 1) := by decide +kernel
theorem dJ2_length_9d52b_3 : decode cJ2_length_9d52b 3 = .ok (.ishr, 1) := by decide +kernel
theorem dJ2_length_9d52b_4 : decode cJ2_length_9d52b 4 = .ok (.ireturn, 1) := by decide +kernel
set_option maxRecDepth 20000 in
theorem ggJ2_charAt_3b067_J2_checkIndex_2214a : GoodIn wsJ2_charAt_3b067 wsJ2_checkIndex_2214a := goodIn_r _ [4, 5, 6, 3, 7, 8, 9, 10, 11, 12, 13, 14, 15, 16] (by decide +kernel) (by decide +kernel)
set_option maxRecDepth 20000 in
theorem gJ2_charAt_3b067_J2_checkIndex_2214a : GoodIn wsJ2_charAt_3b067 (va_wsS RJ2 67 yJ2_checkIndex_2214a wsJ2_checkIndex_2214a) := goodIn_app (goodIn_of _ (by decide +kernel)) ggJ2_charAt_3b067_J2_checkIndex_2214a
set_option maxRecDepth 20000 in
theorem ggJ2_charAt_3b067_J2_getChar_3b067 : GoodIn wsJ2_charAt_3b067 wsJ2_getChar_3b067 := goodIn_r _ [19, 20, 21, 22, 5, 6, 3, 7] (by decide +kernel) (by decide +kernel)
set_option maxRecDepth 20000 in
theorem gJ2_charAt_3b067_J2_getChar_3b067 : GoodIn wsJ2_charAt_3b067 (va_wsS RJ2 71 yJ2_getChar_3b067 wsJ2_getChar_3b067) := goodIn_app (goodIn_of _ (by decide +kernel)) ggJ2_charAt_3b067_J2_getChar_3b067
theorem dJ2_charAt_3b067_0 : decode cJ2_charAt_3b067 0 = .ok (.iload_n 1, 1) := by decide +kernel
theorem dJ2_charAt_3b067_1 : decode cJ2_charAt_3b067 1 = .ok (.aload_n 0, 1) := by decide +kernel
theorem dJ2_charAt_3b067_2 : decode cJ2_charAt_3b067 2 = .ok (.invokestatic 67, 3) := by decide +kernel
theorem dJ2_charAt_3b067_5 : decode cJ2_charAt_3b067 5 = .ok (.aload_n 0, 1) := by decide +kernel
theorem dJ2_charAt_3b067_6 : decode cJ2_charAt_3b067 6 = .ok (.iload_n 1, 1) := by decide +kernel
theorem dJ2_charAt_3b067_7 : decode cJ2_charAt_3b067 7 = .ok (.invokestatic 71, 3) := by decide +kernel
theorem dJ2_charAt_3b067_10 : decode cJ2_charAt_3b067 10 = .ok (.ireturn, 1) := by decide +kernel
set_option maxRecDepth 20000 in
theorem ggJ2_checkIndex_2214a_J2_length_9d52b : GoodIn wsJ2_checkIndex_2214a wsJ2_length_9d52b := goodIn_r _ [4] (by decide +kernel) (by decide +kernel)
set_option maxRecDepth 20000 in
theorem gJ2_checkIndex_2214a_J2_length_9d52b : GoodIn wsJ2_checkIndex_2214a (va_wsS RJ2 48 yJ2_length_9d52b wsJ2_length_9d52b) := goodIn_app (goodIn_of _ (by decide +kernel)) ggJ2_checkIndex_2214a_J2_length_9d52b
set_option maxRecDepth 20000 in
theorem ggJ2_checkIndex_2214a_J0_checkIndex_df160 : GoodIn wsJ2_checkIndex_2214a wsJ0_checkIndex_df160 := goodIn_r _ [8, 9, 10, 11, 12, 13] (by decide +kernel) (by decide +kernel)
set_option maxRecDepth 20000 in
theorem gJ2_checkIndex_2214a_J0_checkIndex_df160 : GoodIn wsJ2_checkIndex_2214a (va_wsS RJ2 414 yJ0_checkIndex_df160 wsJ0_checkIndex_df160) := goodIn_app (goodIn_of _ (by decide +kernel)) ggJ2_checkIndex_2214a_J0_checkIndex_df160
theorem dJ2_checkIndex_2214a_0 : decode cJ2_checkIndex_2214a 0 = .ok (.iload_n 0, 1) := by decide +kernel
theorem dJ2_checkIndex_2214a_1 : decode cJ2_checkIndex_2214a 1 = .ok (.aload_n 1, 1) := by decide +kernel
theorem dJ2_checkIndex_2214a_2 : decode cJ2_checkIndex_2214a 2 = .ok (.invokestatic 48, 3) := by decide +kernel
theorem dJ2_checkIndex_2214a_5 : decode cJ2_checkIndex_2214a 5 = .ok (.invokestatic 414, 3) := by decide +kernel
theorem dJ2_checkIndex_2214a_8 : decode cJ2_checkIndex_2214a 8 = .ok (.return_, 1) := by decide +kernel
theorem dJ3_checkIndex_8e157_0 : decode cJ3_checkIndex_8e157 0 = .ok (.iload_n 0, 1) := by decide +kernel
theorem dJ3_checkIndex_8e157_1 : decode cJ3_checkIndex_8e157 1 = .ok (.ifCond .lt 8, 3) := by decide +kernel
theorem dJ3_checkIndex_8e157_4 : decode cJ3_checkIndex_8e157 4 = .ok (.iload_n 0, 1) := by decide +kernel
theorem dJ3_checkIndex_8e157_5 : decode cJ3_checkIndex_8e157 5 = .ok (.iload_n 1, 1) := by decide +kernel
theorem dJ3_checkIndex_8e157_6 : decode cJ3_checkIndex_8e157 6 = .ok (.if_icmp .lt 10, 3) := by decide +kernel
theorem dJ3_checkIndex_8e157_9 : decode cJ3_checkIndex_8e157 9 = .ok (.aload_n 2, 1) := by decide +kernel
theorem dJ3_checkIndex_8e157_10 : decode cJ3_checkIndex_8e157 10 = .ok (.iload_n 0, 1) := by decide +kernel
theorem dJ3_checkIndex_8e157_11 : decode cJ3_checkIndex_8e157 11 = .ok (.iload_n 1, 1) := by decide +kernel
theorem dJ3_checkIndex_8e157_12 : decode cJ3_checkIndex_8e157 12 = .ok (.invokestatic 95, 3) := by decide +kernel
theorem dJ3_checkIndex_8e157_15 : decode cJ3_checkIndex_8e157 15 = .ok (.athrow, 1) := by decide +kernel
theorem dJ3_checkIndex_8e157_16 : decode cJ3_checkIndex_8e157 16 = .ok (.iload_n 0, 1) := by decide +kernel
theorem dJ3_checkIndex_8e157_17 : decode cJ3_checkIndex_8e157 17 = .ok (.ireturn, 1) := by decide +kernel
abbrev vwCl : List vw_C := [(RX0, TX0, 4), (RX1, TX1, 10), (RX2, TX2, 3), (RX3, TX3, 7), (RX4, TX4, 8), (RX5, TX5, 8), (RX6, TX6, 9), (RX7, TX7, 10), (RX8, TX8, 26)]
