theorem dX5_comes_0 : decode cX5_comes 0 = .ok (.aload_n 0, 1) := by decide +kernel
theorem dX5_comes_1 : decode cX5_comes 1 = .ok (.iload_n 1, 1) := by decide +kernel
theorem dX5_comes_2 : decode cX5_comes 2 = .ok (.invokevirtual 207, 3) := by decide +kernel
theorem dX5_comes_5 : decode cX5_comes 5 = .ok (.ifCond .eq 12, 3) := by decide +kernel
theorem dX5_comes_8 : decode cX5_comes 8 = .ok (.aload_n 0, 1) := by decide +kernel
theorem dX5_comes_9 : decode cX5_comes 9 = .ok (.iload_n 1, 1) := by decide +kernel
theorem dX5_comes_10 : decode cX5_comes 10 = .ok (.iconst 0, 1) := by decide +kernel
theorem dX5_comes_11 : decode cX5_comes 11 = .ok (.invokevirtual 281, 3) := by decide +kernel
theorem dX5_comes_14 : decode cX5_comes 14 = .ok (.goto 4, 3) := by decide +kernel
theorem dX5_comes_17 : decode cX5_comes 17 = .ok (.iconst (-1), 1) := by decide +kernel
theorem dX5_comes_18 : decode cX5_comes 18 = .ok (.ireturn, 1) := by decide +kernel
set_option maxRecDepth 20000 in
theorem ggX5_clear_X5_moveAll : GoodIn wsX5_clear wsX5_moveAll := goodIn_r _ [6] (by decide +kernel) (by decide +kernel)
set_option maxRecDepth 20000 in
theorem gX5_clear_X5_moveAll : GoodIn wsX5_clear (va_wsS RX5 186 yX5_moveAll wsX5_moveAll) := goodIn_app (goodIn_of _ (by decide +kernel)) ggX5_clear_X5_moveAll
set_option maxRecDepth 20000 in
theorem ggX5_clear_X5_looksOfAll : GoodIn wsX5_clear wsX5_looksOfAll := goodIn_r _ [10, 11, 12, 13, 5, 14, 1, 15, 16, 17, 18, 76, 77, 78, 79, 80, 81, 82, 83, 84, 85, 86, 87, 88, 89, 90, 91, 92, 93, 94, 95, 96, 97, 98, 99, 100, 101, 102, 103, 104, 105] (by decide +kernel) (by decide +kernel)
set_option maxRecDepth 20000 in
theorem gX5_clear_X5_looksOfAll : GoodIn wsX5_clear (wsV RX5 252 RX5 yX5_looksOfAll wsX5_looksOfAll) := goodIn_app (goodIn_of _ (by decide +kernel)) ggX5_clear_X5_looksOfAll
set_option maxRecDepth 20000 in
theorem ggX5_clear_X5_nightGoes : GoodIn wsX5_clear wsX5_nightGoes := goodIn_r _ [22, 1, 23, 24, 25, 26, 27, 28, 5, 29, 15, 16, 17, 18, 30, 31, 32, 33, 34, 35, 36, 37, 38, 39, 40, 41, 42, 43, 44, 45, 46, 47, 48, 49, 50, 51, 52, 53, 54, 55, 56, 57, 58, 59, 60, 61, 62, 63, 64, 65, 66, 67, 11, 12, 13, 14, 68, 69, 70, 71, 72, 73, 74, 75, 7, 8, 9, 10, 76, 77, 78, 79, 80, 81, 82, 83, 84, 85, 86, 87, 88, 89, 90, 91, 92, 93, 94, 95, 96, 97, 98, 99, 100, 101, 102, 103, 104, 105] (by decide +kernel) (by decide +kernel)
set_option maxRecDepth 20000 in
theorem gX5_clear_X5_nightGoes : GoodIn wsX5_clear (wsV RX5 259 RX5 yX5_nightGoes wsX5_nightGoes) := goodIn_app (goodIn_of _ (by decide +kernel)) ggX5_clear_X5_nightGoes
theorem dX5_clear_0 : decode cX5_clear 0 = .ok (.aload_n 0, 1) := by decide +kernel
theorem dX5_clear_1 : decode cX5_clear 1 = .ok (.getfield 7, 3) := by decide +kernel
theorem dX5_clear_4 : decode cX5_clear 4 = .ok (.aload_n 0, 1) := by decide +kernel
theorem dX5_clear_5 : decode cX5_clear 5 = .ok (.getfield 19, 3) := by decide +kernel
theorem dX5_clear_8 : decode cX5_clear 8 = .ok (.invokestatic 186, 3) := by decide +kernel
theorem dX5_clear_11 : decode cX5_clear 11 = .ok (.iconst 0, 1) := by decide +kernel
theorem dX5_clear_12 : decode cX5_clear 12 = .ok (.istore_n 1, 1) := by decide +kernel
theorem dX5_clear_13 : decode cX5_clear 13 = .ok (.iload_n 1, 1) := by decide +kernel
theorem dX5_clear_14 : decode cX5_clear 14 = .ok (.bipush 60, 2) := by decide +kernel
theorem dX5_clear_16 : decode cX5_clear 16 = .ok (.if_icmp .gt 20, 3) := by decide +kernel
theorem dX5_clear_19 : decode cX5_clear 19 = .ok (.aload_n 0, 1) := by decide +kernel
theorem dX5_clear_20 : decode cX5_clear 20 = .ok (.invokevirtual 252, 3) := by decide +kernel
theorem dX5_clear_23 : decode cX5_clear 23 = .ok (.ifCond .le 13, 3) := by decide +kernel
theorem dX5_clear_26 : decode cX5_clear 26 = .ok (.aload_n 0, 1) := by decide +kernel
theorem dX5_clear_27 : decode cX5_clear 27 = .ok (.invokevirtual 259, 3) := by decide +kernel
theorem dX5_clear_30 : decode cX5_clear 30 = .ok (.iinc 1 1, 3) := by decide +kernel
theorem dX5_clear_33 : decode cX5_clear 33 = .ok (.goto (-20), 3) := by decide +kernel
theorem dX5_clear_36 : decode cX5_clear 36 = .ok (.aload_n 0, 1) := by decide +kernel
theorem dX5_clear_37 : decode cX5_clear 37 = .ok (.getfield 19, 3) := by decide +kernel
theorem dX5_clear_40 : decode cX5_clear 40 = .ok (.aload_n 0, 1) := by decide +kernel
theorem dX5_clear_41 : decode cX5_clear 41 = .ok (.getfield 7, 3) := by decide +kernel
theorem dX5_clear_44 : decode cX5_clear 44 = .ok (.invokestatic 186, 3) := by decide +kernel
theorem dX5_clear_47 : decode cX5_clear 47 = .ok (.iload_n 1, 1) := by decide +kernel
theorem dX5_clear_48 : decode cX5_clear 48 = .ok (.bipush 60, 2) := by decide +kernel
theorem dX5_clear_50 : decode cX5_clear 50 = .ok (.if_icmp .le 8, 3) := by decide +kernel
theorem dX5_clear_53 : decode cX5_clear 53 = .ok (.bipush (-3), 2) := by decide +kernel
theorem dX5_clear_55 : decode cX5_clear 55 = .ok (.goto 4, 3) := by decide +kernel
theorem dX5_clear_58 : decode cX5_clear 58 = .ok (.iload_n 1, 1) := by decide +kernel
theorem dX5_clear_59 : decode cX5_clear 59 = .ok (.ireturn, 1) := by decide +kernel
set_option maxRecDepth 20000 in
theorem ggX5_firstFor_X5_in : GoodIn wsX5_firstFor wsX5_in := goodIn_r _ [6] (by decide +kernel) (by decide +kernel)
set_option maxRecDepth 20000 in
theorem gX5_firstFor_X5_in : GoodIn wsX5_firstFor (va_wsS RX5 60 yX5_in wsX5_in) := goodIn_app (goodIn_of _ (by decide +kernel)) ggX5_firstFor_X5_in
set_option maxRecDepth 20000 in
theorem ggX5_firstFor_X5_moveAll : GoodIn wsX5_firstFor wsX5_moveAll := goodIn_r _ [9] (by decide +kernel) (by decide +kernel)
set_option maxRecDepth 20000 in
theorem gX5_firstFor_X5_moveAll : GoodIn wsX5_firstFor (va_wsS RX5 186 yX5_moveAll wsX5_moveAll) := goodIn_app (goodIn_of _ (by decide +kernel)) ggX5_firstFor_X5_moveAll
set_option maxRecDepth 20000 in
theorem ggX5_firstFor_X5_cleaned : GoodIn wsX5_firstFor wsX5_cleaned := goodIn_r _ [13, 1, 14, 15, 16, 5, 17, 18, 19, 20, 21, 22, 23, 24, 25, 26, 27, 28, 29, 30, 31, 32, 33, 34, 35, 36, 37, 38, 39, 40, 83, 84, 85, 86, 87, 88, 89, 90, 91, 92, 93, 94, 95, 96, 97, 98, 99, 100, 101, 102, 103, 104, 105, 106, 107, 108, 109, 110, 111, 112] (by decide +kernel) (by decide +kernel)
set_option maxRecDepth 20000 in
theorem gX5_firstFor_X5_cleaned : GoodIn wsX5_firstFor (wsV RX5 239 RX5 yX5_cleaned wsX5_cleaned) := goodIn_app (goodIn_of _ (by decide +kernel)) ggX5_firstFor_X5_cleaned
set_option maxRecDepth 20000 in
theorem ggX5_firstFor_X5_viewedBy : GoodIn wsX5_firstFor wsX5_viewedBy := goodIn_r _ [44, 45, 2, 1, 46, 47, 48, 5, 49, 50, 51, 52, 53, 54, 55, 18, 19, 20, 21, 56, 57, 58, 59, 60, 61, 62, 37, 38, 39, 40, 63, 64, 65, 66, 67, 68, 69, 70, 14, 15, 16, 17, 26, 27, 28, 29, 30, 31, 32, 33, 34, 35, 36, 71, 72, 73, 74, 75, 76, 77, 78, 10, 11, 12, 13, 22, 23, 24, 25, 79, 80, 81, 82, 7, 8, 9, 83, 84, 85, 86, 87, 88, 89, 90, 91, 92, 93, 94, 95, 96, 97, 98, 99, 100, 101, 102, 103, 104, 105, 106, 107, 108, 109, 110, 111, 112] (by decide +kernel) (by decide +kernel)
set_option maxRecDepth 20000 in
theorem gX5_firstFor_X5_viewedBy : GoodIn wsX5_firstFor (wsV RX5 269 RX5 yX5_viewedBy wsX5_viewedBy) := goodIn_app (goodIn_of _ (by decide +kernel)) ggX5_firstFor_X5_viewedBy
theorem dX5_firstFor_0 : decode cX5_firstFor 0 = .ok (.iload_n 1, 1) := by decide +kernel
theorem dX5_firstFor_1 : decode cX5_firstFor 1 = .ok (.iconst 1, 1) := by decide +kernel
theorem dX5_firstFor_2 : decode cX5_firstFor 2 = .ok (.bipush 30, 2) := by decide +kernel
theorem dX5_firstFor_4 : decode cX5_firstFor 4 = .ok (.invokestatic 60, 3) := by decide +kernel
theorem dX5_firstFor_7 : decode cX5_firstFor 7 = .ok (.ifCond .ne 5, 3) := by decide +kernel
theorem dX5_firstFor_10 : decode cX5_firstFor 10 = .ok (.iconst (-1), 1) := by decide +kernel
theorem dX5_firstFor_11 : decode cX5_firstFor 11 = .ok (.ireturn, 1) := by decide +kernel
theorem dX5_firstFor_12 : decode cX5_firstFor 12 = .ok (.aload_n 0, 1) := by decide +kernel
theorem dX5_firstFor_13 : decode cX5_firstFor 13 = .ok (.getfield 7, 3) := by decide +kernel
theorem dX5_firstFor_16 : decode cX5_firstFor 16 = .ok (.aload_n 0, 1) := by decide +kernel
theorem dX5_firstFor_17 : decode cX5_firstFor 17 = .ok (.getfield 19, 3) := by decide +kernel
theorem dX5_firstFor_20 : decode cX5_firstFor 20 = .ok (.invokestatic 186, 3) := by decide +kernel
theorem dX5_firstFor_23 : decode cX5_firstFor 23 = .ok (.iconst 0, 1) := by decide +kernel
theorem dX5_firstFor_24 : decode cX5_firstFor 24 = .ok (.istore_n 2, 1) := by decide +kernel
theorem dX5_firstFor_25 : decode cX5_firstFor 25 = .ok (.iconst (-1), 1) := by decide +kernel
theorem dX5_firstFor_26 : decode cX5_firstFor 26 = .ok (.istore_n 3, 1) := by decide +kernel
theorem dX5_firstFor_27 : decode cX5_firstFor 27 = .ok (.iconst 0, 1) := by decide +kernel
theorem dX5_firstFor_28 : decode cX5_firstFor 28 = .ok (.istore 4, 2) := by decide +kernel
theorem dX5_firstFor_30 : decode cX5_firstFor 30 = .ok (.iload 4, 2) := by decide +kernel
theorem dX5_firstFor_32 : decode cX5_firstFor 32 = .ok (.bipush 10, 2) := by decide +kernel
theorem dX5_firstFor_34 : decode cX5_firstFor 34 = .ok (.if_icmp .ge 57, 3) := by decide +kernel
theorem dX5_firstFor_37 : decode cX5_firstFor 37 = .ok (.aload_n 0, 1) := by decide +kernel
theorem dX5_firstFor_38 : decode cX5_firstFor 38 = .ok (.iload 4, 2) := by decide +kernel
theorem dX5_firstFor_40 : decode cX5_firstFor 40 = .ok (.invokevirtual 239, 3) := by decide +kernel
theorem dX5_firstFor_43 : decode cX5_firstFor 43 = .ok (.pop, 1) := by decide +kernel
theorem dX5_firstFor_44 : decode cX5_firstFor 44 = .ok (.aload_n 0, 1) := by decide +kernel
theorem dX5_firstFor_45 : decode cX5_firstFor 45 = .ok (.iload_n 1, 1) := by decide +kernel
theorem dX5_firstFor_46 : decode cX5_firstFor 46 = .ok (.invokevirtual 269, 3) := by decide +kernel
theorem dX5_firstFor_49 : decode cX5_firstFor 49 = .ok (.istore 5, 2) := by decide +kernel
theorem dX5_firstFor_51 : decode cX5_firstFor 51 = .ok (.iload_n 3, 1) := by decide +kernel
theorem dX5_firstFor_52 : decode cX5_firstFor 52 = .ok (.ifCond .lt 9, 3) := by decide +kernel
theorem dX5_firstFor_55 : decode cX5_firstFor 55 = .ok (.iload 5, 2) := by decide +kernel
theorem dX5_firstFor_57 : decode cX5_firstFor 57 = .ok (.iload_n 3, 1) := by decide +kernel
theorem dX5_firstFor_58 : decode cX5_firstFor 58 = .ok (.if_icmp .ge 8, 3) := by decide +kernel
theorem dX5_firstFor_61 : decode cX5_firstFor 61 = .ok (.iload 4, 2) := by decide +kernel
theorem dX5_firstFor_63 : decode cX5_firstFor 63 = .ok (.goto 4, 3) := by decide +kernel
theorem dX5_firstFor_66 : decode cX5_firstFor 66 = .ok (.iload_n 2, 1) := by decide +kernel
theorem dX5_firstFor_67 : decode cX5_firstFor 67 = .ok (.istore_n 2, 1) := by decide +kernel
theorem dX5_firstFor_68 : decode cX5_firstFor 68 = .ok (.iload_n 3, 1) := by decide +kernel
theorem dX5_firstFor_69 : decode cX5_firstFor 69 = .ok (.ifCond .lt 9, 3) := by decide +kernel
theorem dX5_firstFor_72 : decode cX5_firstFor 72 = .ok (.iload 5, 2) := by decide +kernel
theorem dX5_firstFor_74 : decode cX5_firstFor 74 = .ok (.iload_n 3, 1) := by decide +kernel
theorem dX5_firstFor_75 : decode cX5_firstFor 75 = .ok (.if_icmp .ge 8, 3) := by decide +kernel
theorem dX5_firstFor_78 : decode cX5_firstFor 78 = .ok (.iload 5, 2) := by decide +kernel
theorem dX5_firstFor_80 : decode cX5_firstFor 80 = .ok (.goto 4, 3) := by decide +kernel
theorem dX5_firstFor_83 : decode cX5_firstFor 83 = .ok (.iload_n 3, 1) := by decide +kernel
theorem dX5_firstFor_84 : decode cX5_firstFor 84 = .ok (.istore_n 3, 1) := by decide +kernel
theorem dX5_firstFor_85 : decode cX5_firstFor 85 = .ok (.iinc 4 1, 3) := by decide +kernel
theorem dX5_firstFor_88 : decode cX5_firstFor 88 = .ok (.goto (-58), 3) := by decide +kernel
theorem dX5_firstFor_91 : decode cX5_firstFor 91 = .ok (.iload_n 2, 1) := by decide +kernel
theorem dX5_firstFor_92 : decode cX5_firstFor 92 = .ok (.ireturn, 1) := by decide +kernel
set_option maxRecDepth 20000 in
theorem ggX5_bestAt_X5_moveAll : GoodIn wsX5_bestAt wsX5_moveAll := goodIn_r _ [6] (by decide +kernel) (by decide +kernel)
set_option maxRecDepth 20000 in
theorem gX5_bestAt_X5_moveAll : GoodIn wsX5_bestAt (va_wsS RX5 186 yX5_moveAll wsX5_moveAll) := goodIn_app (goodIn_of _ (by decide +kernel)) ggX5_bestAt_X5_moveAll
set_option maxRecDepth 20000 in
theorem ggX5_bestAt_X5_viewedBy : GoodIn wsX5_bestAt wsX5_viewedBy := goodIn_r _ [10, 11, 2, 1, 12, 13, 14, 5, 15, 16, 17, 18, 19, 20, 21, 22, 23, 24, 25, 26, 27, 28, 29, 30, 31, 32, 33, 34, 35, 36, 37, 38, 39, 40, 41, 42, 43, 44, 45, 46, 47, 48, 49, 50, 51, 52, 53, 54, 55, 56, 57, 58, 59, 60, 61, 62, 63, 64, 65, 66, 67, 68, 69, 70, 71, 72, 73, 74, 75, 76, 77, 78, 79, 3, 4, 6, 80, 81, 82, 83, 84, 85, 86, 87, 88, 89, 90, 91, 92, 93, 94, 95, 96, 97, 98, 99, 100, 101, 102, 103, 104, 105, 106, 107, 108, 109] (by decide +kernel) (by decide +kernel)
set_option maxRecDepth 20000 in
theorem gX5_bestAt_X5_viewedBy : GoodIn wsX5_bestAt (wsV RX5 269 RX5 yX5_viewedBy wsX5_viewedBy) := goodIn_app (goodIn_of _ (by decide +kernel)) ggX5_bestAt_X5_viewedBy
theorem dX5_bestAt_0 : decode cX5_bestAt 0 = .ok (.aload_n 0, 1) := by decide +kernel
theorem dX5_bestAt_1 : decode cX5_bestAt 1 = .ok (.getfield 7, 3) := by decide +kernel
theorem dX5_bestAt_4 : decode cX5_bestAt 4 = .ok (.aload_n 0, 1) := by decide +kernel
theorem dX5_bestAt_5 : decode cX5_bestAt 5 = .ok (.getfield 19, 3) := by decide +kernel
theorem dX5_bestAt_8 : decode cX5_bestAt 8 = .ok (.invokestatic 186, 3) := by decide +kernel
theorem dX5_bestAt_11 : decode cX5_bestAt 11 = .ok (.iconst 0, 1) := by decide +kernel
theorem dX5_bestAt_12 : decode cX5_bestAt 12 = .ok (.istore 4, 2) := by decide +kernel
theorem dX5_bestAt_14 : decode cX5_bestAt 14 = .ok (.iconst (-1), 1) := by decide +kernel
theorem dX5_bestAt_15 : decode cX5_bestAt 15 = .ok (.istore 5, 2) := by decide +kernel
theorem dX5_bestAt_17 : decode cX5_bestAt 17 = .ok (.iconst 0, 1) := by decide +kernel
theorem dX5_bestAt_18 : decode cX5_bestAt 18 = .ok (.istore 6, 2) := by decide +kernel
theorem dX5_bestAt_20 : decode cX5_bestAt 20 = .ok (.iload 6, 2) := by decide +kernel
theorem dX5_bestAt_22 : decode cX5_bestAt 22 = .ok (.iload_n 2, 1) := by decide +kernel
theorem dX5_bestAt_23 : decode cX5_bestAt 23 = .ok (.if_icmp .gt 66, 3) := by decide +kernel
theorem dX5_bestAt_26 : decode cX5_bestAt 26 = .ok (.aload_n 0, 1) := by decide +kernel
theorem dX5_bestAt_27 : decode cX5_bestAt 27 = .ok (.getfield 7, 3) := by decide +kernel
theorem dX5_bestAt_30 : decode cX5_bestAt 30 = .ok (.iload_n 1, 1) := by decide +kernel
theorem dX5_bestAt_31 : decode cX5_bestAt 31 = .ok (.iload 6, 2) := by decide +kernel
theorem dX5_bestAt_33 : decode cX5_bestAt 33 = .ok (.iastore, 1) := by decide +kernel
theorem dX5_bestAt_34 : decode cX5_bestAt 34 = .ok (.aload_n 0, 1) := by decide +kernel
theorem dX5_bestAt_35 : decode cX5_bestAt 35 = .ok (.iload_n 3, 1) := by decide +kernel
theorem dX5_bestAt_36 : decode cX5_bestAt 36 = .ok (.invokevirtual 269, 3) := by decide +kernel
theorem dX5_bestAt_39 : decode cX5_bestAt 39 = .ok (.istore 7, 2) := by decide +kernel
theorem dX5_bestAt_41 : decode cX5_bestAt 41 = .ok (.iload 5, 2) := by decide +kernel
theorem dX5_bestAt_43 : decode cX5_bestAt 43 = .ok (.ifCond .lt 10, 3) := by decide +kernel
theorem dX5_bestAt_46 : decode cX5_bestAt 46 = .ok (.iload 7, 2) := by decide +kernel
theorem dX5_bestAt_48 : decode cX5_bestAt 48 = .ok (.iload 5, 2) := by decide +kernel
theorem dX5_bestAt_50 : decode cX5_bestAt 50 = .ok (.if_icmp .ge 8, 3) := by decide +kernel
theorem dX5_bestAt_53 : decode cX5_bestAt 53 = .ok (.iload 6, 2) := by decide +kernel
theorem dX5_bestAt_55 : decode cX5_bestAt 55 = .ok (.goto 5, 3) := by decide +kernel
theorem dX5_bestAt_58 : decode cX5_bestAt 58 = .ok (.iload 4, 2) := by decide +kernel
theorem dX5_bestAt_60 : decode cX5_bestAt 60 = .ok (.istore 4, 2) := by decide +kernel
theorem dX5_bestAt_62 : decode cX5_bestAt 62 = .ok (.iload 5, 2) := by decide +kernel
theorem dX5_bestAt_64 : decode cX5_bestAt 64 = .ok (.ifCond .lt 10, 3) := by decide +kernel
theorem dX5_bestAt_67 : decode cX5_bestAt 67 = .ok (.iload 7, 2) := by decide +kernel
theorem dX5_bestAt_69 : decode cX5_bestAt 69 = .ok (.iload 5, 2) := by decide +kernel
theorem dX5_bestAt_71 : decode cX5_bestAt 71 = .ok (.if_icmp .ge 8, 3) := by decide +kernel
theorem dX5_bestAt_74 : decode cX5_bestAt 74 = .ok (.iload 7, 2) := by decide +kernel
theorem dX5_bestAt_76 : decode cX5_bestAt 76 = .ok (.goto 5, 3) := by decide +kernel
theorem dX5_bestAt_79 : decode cX5_bestAt 79 = .ok (.iload 5, 2) := by decide +kernel
theorem dX5_bestAt_81 : decode cX5_bestAt 81 = .ok (.istore 5, 2) := by decide +kernel
theorem dX5_bestAt_83 : decode cX5_bestAt 83 = .ok (.iinc 6 1, 3) := by decide +kernel
theorem dX5_bestAt_86 : decode cX5_bestAt 86 = .ok (.goto (-66), 3) := by decide +kernel
theorem dX5_bestAt_89 : decode cX5_bestAt 89 = .ok (.iload 4, 2) := by decide +kernel
theorem dX5_bestAt_91 : decode cX5_bestAt 91 = .ok (.ireturn, 1) := by decide +kernel
set_option maxRecDepth 20000 in
theorem ggX5_groundFor_X5_isWall : GoodIn wsX5_groundFor wsX5_isWall := goodIn_r _ [4, 5, 6, 3, 7] (by decide +kernel) (by decide +kernel)
set_option maxRecDepth 20000 in
theorem gX5_groundFor_X5_isWall : GoodIn wsX5_groundFor (va_wsS RX5 200 yX5_isWall wsX5_isWall) := goodIn_app (goodIn_of _ (by decide +kernel)) ggX5_groundFor_X5_isWall
set_option maxRecDepth 20000 in
theorem ggX5_groundFor_X5_in : GoodIn wsX5_groundFor wsX5_in := goodIn_r _ [7] (by decide +kernel) (by decide +kernel)
set_option maxRecDepth 20000 in
theorem gX5_groundFor_X5_in : GoodIn wsX5_groundFor (va_wsS RX5 60 yX5_in wsX5_in) := goodIn_app (goodIn_of _ (by decide +kernel)) ggX5_groundFor_X5_in
set_option maxRecDepth 20000 in
theorem ggX5_groundFor_X5_bestAt : GoodIn wsX5_groundFor wsX5_bestAt := goodIn_r _ [11, 12, 13, 14, 15, 3, 16, 17, 18, 19, 20, 21, 22, 23, 24, 25, 26, 27, 28, 29, 30, 31, 32, 33, 34, 35, 36, 37, 38, 39, 40, 41, 42, 43, 44, 45, 46, 47, 48, 49, 50, 51, 52, 53, 54, 55, 56, 57, 58, 59, 60, 61, 62, 63, 64, 65, 66, 67, 68, 69, 70, 71, 72, 73, 74, 75, 76, 77, 78, 79, 80, 81, 82, 83, 84, 85, 86, 87, 88, 89, 90, 91, 92, 93, 94, 95, 96, 97, 98, 99, 100, 101, 102, 103, 104, 105, 106, 107, 108, 109, 110, 111, 112, 113, 114, 115, 116, 117, 118, 119] (by decide +kernel) (by decide +kernel)
set_option maxRecDepth 20000 in
theorem gX5_groundFor_X5_bestAt : GoodIn wsX5_groundFor (wsV RX5 285 RX5 yX5_bestAt wsX5_bestAt) := goodIn_app (goodIn_of _ (by decide +kernel)) ggX5_groundFor_X5_bestAt
theorem dX5_groundFor_0 : decode cX5_groundFor 0 = .ok (.iload_n 1, 1) := by decide +kernel
theorem dX5_groundFor_1 : decode cX5_groundFor 1 = .ok (.invokestatic 200, 3) := by decide +kernel
theorem dX5_groundFor_4 : decode cX5_groundFor 4 = .ok (.ifCond .eq 28, 3) := by decide +kernel
theorem dX5_groundFor_7 : decode cX5_groundFor 7 = .ok (.iload_n 2, 1) := by decide +kernel
theorem dX5_groundFor_8 : decode cX5_groundFor 8 = .ok (.iconst 1, 1) := by decide +kernel
theorem dX5_groundFor_9 : decode cX5_groundFor 9 = .ok (.bipush 30, 2) := by decide +kernel
theorem dX5_groundFor_11 : decode cX5_groundFor 11 = .ok (.invokestatic 60, 3) := by decide +kernel
theorem dX5_groundFor_14 : decode cX5_groundFor 14 = .ok (.ifCond .eq 18, 3) := by decide +kernel
theorem dX5_groundFor_17 : decode cX5_groundFor 17 = .ok (.aload_n 0, 1) := by decide +kernel
theorem dX5_groundFor_18 : decode cX5_groundFor 18 = .ok (.bipush 8, 2) := by decide +kernel
theorem dX5_groundFor_20 : decode cX5_groundFor 20 = .ok (.iconst 2, 1) := by decide +kernel
theorem dX5_groundFor_21 : decode cX5_groundFor 21 = .ok (.iload_n 1, 1) := by decide +kernel
theorem dX5_groundFor_22 : decode cX5_groundFor 22 = .ok (.imul, 1) := by decide +kernel
theorem dX5_groundFor_23 : decode cX5_groundFor 23 = .ok (.iadd, 1) := by decide +kernel
theorem dX5_groundFor_24 : decode cX5_groundFor 24 = .ok (.iconst 2, 1) := by decide +kernel
theorem dX5_groundFor_25 : decode cX5_groundFor 25 = .ok (.iload_n 2, 1) := by decide +kernel
theorem dX5_groundFor_26 : decode cX5_groundFor 26 = .ok (.invokevirtual 285, 3) := by decide +kernel
theorem dX5_groundFor_29 : decode cX5_groundFor 29 = .ok (.goto 4, 3) := by decide +kernel
theorem dX5_groundFor_32 : decode cX5_groundFor 32 = .ok (.iconst (-1), 1) := by decide +kernel
theorem dX5_groundFor_33 : decode cX5_groundFor 33 = .ok (.ireturn, 1) := by decide +kernel
set_option maxRecDepth 20000 in
theorem ggX5_kindFor_X5_isOne : GoodIn wsX5_kindFor wsX5_isOne := goodIn_r _ [5, 6, 7, 8, 4, 9, 91, 92, 93, 94, 95, 96, 97, 98, 99, 100, 101, 102, 103, 104, 105, 106, 107, 108, 109, 110, 111, 112, 113, 114, 115, 116, 117, 118, 119, 120] (by decide +kernel) (by decide +kernel)
set_option maxRecDepth 20000 in
theorem gX5_kindFor_X5_isOne : GoodIn wsX5_kindFor (wsV RX5 207 RX5 yX5_isOne wsX5_isOne) := goodIn_app (goodIn_of _ (by decide +kernel)) ggX5_kindFor_X5_isOne
set_option maxRecDepth 20000 in
theorem ggX5_kindFor_X5_in : GoodIn wsX5_kindFor wsX5_in := goodIn_r _ [9] (by decide +kernel) (by decide +kernel)
set_option maxRecDepth 20000 in
theorem gX5_kindFor_X5_in : GoodIn wsX5_kindFor (va_wsS RX5 60 yX5_in wsX5_in) := goodIn_app (goodIn_of _ (by decide +kernel)) ggX5_kindFor_X5_in
set_option maxRecDepth 20000 in
theorem ggX5_kindFor_X5_bestAt : GoodIn wsX5_kindFor wsX5_bestAt := goodIn_r _ [13, 6, 14, 15, 16, 4, 17, 18, 19, 20, 21, 22, 23, 24, 25, 26, 27, 28, 29, 30, 31, 32, 33, 34, 35, 36, 37, 38, 39, 40, 41, 42, 43, 44, 45, 46, 47, 48, 49, 50, 51, 52, 53, 54, 55, 56, 57, 58, 59, 60, 61, 62, 63, 64, 65, 66, 67, 68, 69, 70, 71, 72, 73, 74, 75, 76, 77, 78, 79, 80, 81, 82, 83, 84, 85, 86, 87, 88, 89, 90, 91, 92, 93, 94, 95, 96, 97, 98, 99, 100, 101, 102, 103, 104, 105, 106, 107, 108, 109, 110, 111, 112, 113, 114, 115, 116, 117, 118, 119, 120] (by decide +kernel) (by decide +kernel)
set_option maxRecDepth 20000 in
theorem gX5_kindFor_X5_bestAt : GoodIn wsX5_kindFor (wsV RX5 285 RX5 yX5_bestAt wsX5_bestAt) := goodIn_app (goodIn_of _ (by decide +kernel)) ggX5_kindFor_X5_bestAt
theorem dX5_kindFor_0 : decode cX5_kindFor 0 = .ok (.aload_n 0, 1) := by decide +kernel
theorem dX5_kindFor_1 : decode cX5_kindFor 1 = .ok (.iload_n 1, 1) := by decide +kernel
theorem dX5_kindFor_2 : decode cX5_kindFor 2 = .ok (.invokevirtual 207, 3) := by decide +kernel
theorem dX5_kindFor_5 : decode cX5_kindFor 5 = .ok (.ifCond .eq 28, 3) := by decide +kernel
theorem dX5_kindFor_8 : decode cX5_kindFor 8 = .ok (.iload_n 2, 1) := by decide +kernel
theorem dX5_kindFor_9 : decode cX5_kindFor 9 = .ok (.iconst 1, 1) := by decide +kernel
theorem dX5_kindFor_10 : decode cX5_kindFor 10 = .ok (.bipush 30, 2) := by decide +kernel
theorem dX5_kindFor_12 : decode cX5_kindFor 12 = .ok (.invokestatic 60, 3) := by decide +kernel
theorem dX5_kindFor_15 : decode cX5_kindFor 15 = .ok (.ifCond .eq 18, 3) := by decide +kernel
theorem dX5_kindFor_18 : decode cX5_kindFor 18 = .ok (.aload_n 0, 1) := by decide +kernel
theorem dX5_kindFor_19 : decode cX5_kindFor 19 = .ok (.bipush 28, 2) := by decide +kernel
theorem dX5_kindFor_21 : decode cX5_kindFor 21 = .ok (.iconst 5, 1) := by decide +kernel
theorem dX5_kindFor_22 : decode cX5_kindFor 22 = .ok (.iload_n 1, 1) := by decide +kernel
theorem dX5_kindFor_23 : decode cX5_kindFor 23 = .ok (.imul, 1) := by decide +kernel
theorem dX5_kindFor_24 : decode cX5_kindFor 24 = .ok (.iadd, 1) := by decide +kernel
theorem dX5_kindFor_25 : decode cX5_kindFor 25 = .ok (.iconst 5, 1) := by decide +kernel
theorem dX5_kindFor_26 : decode cX5_kindFor 26 = .ok (.iload_n 2, 1) := by decide +kernel
theorem dX5_kindFor_27 : decode cX5_kindFor 27 = .ok (.invokevirtual 285, 3) := by decide +kernel
theorem dX5_kindFor_30 : decode cX5_kindFor 30 = .ok (.goto 4, 3) := by decide +kernel
theorem dX5_kindFor_33 : decode cX5_kindFor 33 = .ok (.iconst (-1), 1) := by decide +kernel
theorem dX5_kindFor_34 : decode cX5_kindFor 34 = .ok (.ireturn, 1) := by decide +kernel
set_option maxRecDepth 20000 in
theorem ggX5_bucketsFor_X5_in : GoodIn wsX5_bucketsFor wsX5_in := goodIn_r _ [7] (by decide +kernel) (by decide +kernel)
set_option maxRecDepth 20000 in
theorem gX5_bucketsFor_X5_in : GoodIn wsX5_bucketsFor (va_wsS RX5 60 yX5_in wsX5_in) := goodIn_app (goodIn_of _ (by decide +kernel)) ggX5_bucketsFor_X5_in
set_option maxRecDepth 20000 in
theorem ggX5_bucketsFor_X5_moveAll : GoodIn wsX5_bucketsFor wsX5_moveAll := goodIn_r _ [10] (by decide +kernel) (by decide +kernel)
set_option maxRecDepth 20000 in
theorem gX5_bucketsFor_X5_moveAll : GoodIn wsX5_bucketsFor (va_wsS RX5 186 yX5_moveAll wsX5_moveAll) := goodIn_app (goodIn_of _ (by decide +kernel)) ggX5_bucketsFor_X5_moveAll
set_option maxRecDepth 20000 in
theorem ggX5_bucketsFor_X5_viewedBy : GoodIn wsX5_bucketsFor wsX5_viewedBy := goodIn_r _ [14, 15, 3, 2, 16, 17, 18, 6, 19, 20, 1, 21, 22, 23, 24, 25, 26, 27, 28, 29, 30, 31, 32, 33, 34, 35, 36, 37, 38, 39, 40, 41, 42, 43, 44, 45, 46, 47, 48, 49, 50, 51, 52, 53, 54, 55, 56, 57, 58, 59, 60, 61, 62, 63, 64, 65, 66, 67, 68, 69, 70, 71, 72, 73, 74, 75, 76, 77, 78, 79, 80, 81, 82, 8, 9, 10, 83, 84, 85, 86, 87, 88, 89, 90, 91, 92, 93, 94, 95, 96, 97, 98, 99, 100, 101, 102, 103, 104, 105, 106, 107, 108, 109, 110, 111, 112] (by decide +kernel) (by decide +kernel)
set_option maxRecDepth 20000 in
theorem gX5_bucketsFor_X5_viewedBy : GoodIn wsX5_bucketsFor (wsV RX5 269 RX5 yX5_viewedBy wsX5_viewedBy) := goodIn_app (goodIn_of _ (by decide +kernel)) ggX5_bucketsFor_X5_viewedBy
theorem dX5_bucketsFor_0 : decode cX5_bucketsFor 0 = .ok (.iload_n 1, 1) := by decide +kernel
theorem dX5_bucketsFor_1 : decode cX5_bucketsFor 1 = .ok (.iconst 1, 1) := by decide +kernel
theorem dX5_bucketsFor_2 : decode cX5_bucketsFor 2 = .ok (.bipush 30, 2) := by decide +kernel
theorem dX5_bucketsFor_4 : decode cX5_bucketsFor 4 = .ok (.invokestatic 60, 3) := by decide +kernel
theorem dX5_bucketsFor_7 : decode cX5_bucketsFor 7 = .ok (.ifCond .eq 14, 3) := by decide +kernel
theorem dX5_bucketsFor_10 : decode cX5_bucketsFor 10 = .ok (.iload_n 2, 1) := by decide +kernel
theorem dX5_bucketsFor_11 : decode cX5_bucketsFor 11 = .ok (.iconst 0, 1) := by decide +kernel
theorem dX5_bucketsFor_12 : decode cX5_bucketsFor 12 = .ok (.ldc_w 258, 3) := by decide +kernel
theorem dX5_bucketsFor_15 : decode cX5_bucketsFor 15 = .ok (.invokestatic 60, 3) := by decide +kernel
theorem dX5_bucketsFor_18 : decode cX5_bucketsFor 18 = .ok (.ifCond .ne 5, 3) := by decide +kernel
theorem dX5_bucketsFor_21 : decode cX5_bucketsFor 21 = .ok (.iconst (-1), 1) := by decide +kernel
theorem dX5_bucketsFor_22 : decode cX5_bucketsFor 22 = .ok (.ireturn, 1) := by decide +kernel
theorem dX5_bucketsFor_23 : decode cX5_bucketsFor 23 = .ok (.aload_n 0, 1) := by decide +kernel
theorem dX5_bucketsFor_24 : decode cX5_bucketsFor 24 = .ok (.getfield 7, 3) := by decide +kernel
theorem dX5_bucketsFor_27 : decode cX5_bucketsFor 27 = .ok (.aload_n 0, 1) := by decide +kernel
theorem dX5_bucketsFor_28 : decode cX5_bucketsFor 28 = .ok (.getfield 19, 3) := by decide +kernel
theorem dX5_bucketsFor_31 : decode cX5_bucketsFor 31 = .ok (.invokestatic 186, 3) := by decide +kernel
theorem dX5_bucketsFor_34 : decode cX5_bucketsFor 34 = .ok (.iconst (-1), 1) := by decide +kernel
theorem dX5_bucketsFor_35 : decode cX5_bucketsFor 35 = .ok (.istore_n 3, 1) := by decide +kernel
theorem dX5_bucketsFor_36 : decode cX5_bucketsFor 36 = .ok (.iconst 0, 1) := by decide +kernel
theorem dX5_bucketsFor_37 : decode cX5_bucketsFor 37 = .ok (.istore 4, 2) := by decide +kernel
theorem dX5_bucketsFor_39 : decode cX5_bucketsFor 39 = .ok (.iload_n 3, 1) := by decide +kernel
theorem dX5_bucketsFor_40 : decode cX5_bucketsFor 40 = .ok (.bipush 9, 2) := by decide +kernel
theorem dX5_bucketsFor_42 : decode cX5_bucketsFor 42 = .ok (.if_icmp .ge 37, 3) := by decide +kernel
theorem dX5_bucketsFor_45 : decode cX5_bucketsFor 45 = .ok (.iload 4, 2) := by decide +kernel
theorem dX5_bucketsFor_47 : decode cX5_bucketsFor 47 = .ok (.ifCond .ne 32, 3) := by decide +kernel
theorem dX5_bucketsFor_50 : decode cX5_bucketsFor 50 = .ok (.iinc 3 1, 3) := by decide +kernel
theorem dX5_bucketsFor_53 : decode cX5_bucketsFor 53 = .ok (.aload_n 0, 1) := by decide +kernel
theorem dX5_bucketsFor_54 : decode cX5_bucketsFor 54 = .ok (.getfield 7, 3) := by decide +kernel
theorem dX5_bucketsFor_57 : decode cX5_bucketsFor 57 = .ok (.iconst 0, 1) := by decide +kernel
theorem dX5_bucketsFor_58 : decode cX5_bucketsFor 58 = .ok (.iload_n 3, 1) := by decide +kernel
theorem dX5_bucketsFor_59 : decode cX5_bucketsFor 59 = .ok (.iastore, 1) := by decide +kernel
theorem dX5_bucketsFor_60 : decode cX5_bucketsFor 60 = .ok (.aload_n 0, 1) := by decide +kernel
theorem dX5_bucketsFor_61 : decode cX5_bucketsFor 61 = .ok (.iload_n 1, 1) := by decide +kernel
theorem dX5_bucketsFor_62 : decode cX5_bucketsFor 62 = .ok (.invokevirtual 269, 3) := by decide +kernel
theorem dX5_bucketsFor_65 : decode cX5_bucketsFor 65 = .ok (.iload_n 2, 1) := by decide +kernel
theorem dX5_bucketsFor_66 : decode cX5_bucketsFor 66 = .ok (.if_icmp .gt 7, 3) := by decide +kernel
theorem dX5_bucketsFor_69 : decode cX5_bucketsFor 69 = .ok (.iconst 1, 1) := by decide +kernel
theorem dX5_bucketsFor_70 : decode cX5_bucketsFor 70 = .ok (.goto 4, 3) := by decide +kernel
theorem dX5_bucketsFor_73 : decode cX5_bucketsFor 73 = .ok (.iconst 0, 1) := by decide +kernel
theorem dX5_bucketsFor_74 : decode cX5_bucketsFor 74 = .ok (.istore 4, 2) := by decide +kernel
theorem dX5_bucketsFor_76 : decode cX5_bucketsFor 76 = .ok (.goto (-37), 3) := by decide +kernel
theorem dX5_bucketsFor_79 : decode cX5_bucketsFor 79 = .ok (.iload 4, 2) := by decide +kernel
theorem dX5_bucketsFor_81 : decode cX5_bucketsFor 81 = .ok (.ifCond .eq 7, 3) := by decide +kernel
theorem dX5_bucketsFor_84 : decode cX5_bucketsFor 84 = .ok (.iload_n 3, 1) := by decide +kernel
theorem dX5_bucketsFor_85 : decode cX5_bucketsFor 85 = .ok (.goto 5, 3) := by decide +kernel
theorem dX5_bucketsFor_88 : decode cX5_bucketsFor 88 = .ok (.bipush (-3), 2) := by decide +kernel
theorem dX5_bucketsFor_90 : decode cX5_bucketsFor 90 = .ok (.ireturn, 1) := by decide +kernel
set_option maxRecDepth 20000 in
theorem ggX5_isWaxed_X5_ground : GoodIn wsX5_isWaxed wsX5_ground := goodIn_r _ [6, 1, 80, 81, 82, 83, 84, 85, 86, 87, 88, 89, 90, 91, 92, 93, 94, 95, 96, 97, 98, 99, 100, 101, 102, 103, 104, 105, 106, 107, 108, 109] (by decide +kernel) (by decide +kernel)
set_option maxRecDepth 20000 in
theorem gX5_isWaxed_X5_ground : GoodIn wsX5_isWaxed (wsV RX5 219 RX5 yX5_ground wsX5_ground) := goodIn_app (goodIn_of _ (by decide +kernel)) ggX5_isWaxed_X5_ground
set_option maxRecDepth 20000 in
theorem ggX5_isWaxed_X5_viewedBy : GoodIn wsX5_isWaxed wsX5_viewedBy := goodIn_r _ [10, 11, 12, 1, 13, 14, 15, 5, 16, 17, 18, 19, 20, 21, 22, 23, 24, 25, 26, 27, 28, 29, 30, 31, 32, 33, 34, 35, 36, 37, 38, 39, 40, 41, 42, 43, 44, 45, 2, 3, 4, 6, 46, 47, 48, 49, 50, 51, 52, 53, 54, 55, 56, 57, 58, 59, 60, 61, 62, 63, 64, 65, 66, 67, 68, 69, 70, 71, 72, 73, 74, 75, 76, 77, 78, 79, 80, 81, 82, 83, 84, 85, 86, 87, 88, 89, 90, 91, 92, 93, 94, 95, 96, 97, 98, 99, 100, 101, 102, 103, 104, 105, 106, 107, 108, 109] (by decide +kernel) (by decide +kernel)
set_option maxRecDepth 20000 in
theorem gX5_isWaxed_X5_viewedBy : GoodIn wsX5_isWaxed (wsV RX5 269 RX5 yX5_viewedBy wsX5_viewedBy) := goodIn_app (goodIn_of _ (by decide +kernel)) ggX5_isWaxed_X5_viewedBy
theorem dX5_isWaxed_0 : decode cX5_isWaxed 0 = .ok (.iconst 0, 1) := by decide +kernel
theorem dX5_isWaxed_1 : decode cX5_isWaxed 1 = .ok (.istore 4, 2) := by decide +kernel
theorem dX5_isWaxed_3 : decode cX5_isWaxed 3 = .ok (.iload 4, 2) := by decide +kernel
theorem dX5_isWaxed_5 : decode cX5_isWaxed 5 = .ok (.bipush 10, 2) := by decide +kernel
theorem dX5_isWaxed_7 : decode cX5_isWaxed 7 = .ok (.if_icmp .ge 41, 3) := by decide +kernel
theorem dX5_isWaxed_10 : decode cX5_isWaxed 10 = .ok (.aload_n 0, 1) := by decide +kernel
theorem dX5_isWaxed_11 : decode cX5_isWaxed 11 = .ok (.getfield 7, 3) := by decide +kernel
theorem dX5_isWaxed_14 : decode cX5_isWaxed 14 = .ok (.bipush 8, 2) := by decide +kernel
theorem dX5_isWaxed_16 : decode cX5_isWaxed 16 = .ok (.iconst 2, 1) := by decide +kernel
theorem dX5_isWaxed_17 : decode cX5_isWaxed 17 = .ok (.iload 4, 2) := by decide +kernel
theorem dX5_isWaxed_19 : decode cX5_isWaxed 19 = .ok (.imul, 1) := by decide +kernel
theorem dX5_isWaxed_20 : decode cX5_isWaxed 20 = .ok (.iadd, 1) := by decide +kernel
theorem dX5_isWaxed_21 : decode cX5_isWaxed 21 = .ok (.iload_n 1, 1) := by decide +kernel
theorem dX5_isWaxed_22 : decode cX5_isWaxed 22 = .ok (.iload 4, 2) := by decide +kernel
theorem dX5_isWaxed_24 : decode cX5_isWaxed 24 = .ok (.ishr, 1) := by decide +kernel
theorem dX5_isWaxed_25 : decode cX5_isWaxed 25 = .ok (.iconst 1, 1) := by decide +kernel
theorem dX5_isWaxed_26 : decode cX5_isWaxed 26 = .ok (.iand, 1) := by decide +kernel
theorem dX5_isWaxed_27 : decode cX5_isWaxed 27 = .ok (.iconst 1, 1) := by decide +kernel
theorem dX5_isWaxed_28 : decode cX5_isWaxed 28 = .ok (.if_icmp .ne 7, 3) := by decide +kernel
theorem dX5_isWaxed_31 : decode cX5_isWaxed 31 = .ok (.iconst 2, 1) := by decide +kernel
theorem dX5_isWaxed_32 : decode cX5_isWaxed 32 = .ok (.goto 9, 3) := by decide +kernel
theorem dX5_isWaxed_35 : decode cX5_isWaxed 35 = .ok (.aload_n 0, 1) := by decide +kernel
theorem dX5_isWaxed_36 : decode cX5_isWaxed 36 = .ok (.iload 4, 2) := by decide +kernel
theorem dX5_isWaxed_38 : decode cX5_isWaxed 38 = .ok (.invokevirtual 219, 3) := by decide +kernel
theorem dX5_isWaxed_41 : decode cX5_isWaxed 41 = .ok (.iastore, 1) := by decide +kernel
theorem dX5_isWaxed_42 : decode cX5_isWaxed 42 = .ok (.iinc 4 1, 3) := by decide +kernel
theorem dX5_isWaxed_45 : decode cX5_isWaxed 45 = .ok (.goto (-42), 3) := by decide +kernel
theorem dX5_isWaxed_48 : decode cX5_isWaxed 48 = .ok (.aload_n 0, 1) := by decide +kernel
theorem dX5_isWaxed_49 : decode cX5_isWaxed 49 = .ok (.iload_n 2, 1) := by decide +kernel
theorem dX5_isWaxed_50 : decode cX5_isWaxed 50 = .ok (.invokevirtual 269, 3) := by decide +kernel
theorem dX5_isWaxed_53 : decode cX5_isWaxed 53 = .ok (.iload_n 3, 1) := by decide +kernel
theorem dX5_isWaxed_54 : decode cX5_isWaxed 54 = .ok (.if_icmp .gt 7, 3) := by decide +kernel
theorem dX5_isWaxed_57 : decode cX5_isWaxed 57 = .ok (.iconst 1, 1) := by decide +kernel
theorem dX5_isWaxed_58 : decode cX5_isWaxed 58 = .ok (.goto 4, 3) := by decide +kernel
theorem dX5_isWaxed_61 : decode cX5_isWaxed 61 = .ok (.iconst 0, 1) := by decide +kernel
theorem dX5_isWaxed_62 : decode cX5_isWaxed 62 = .ok (.ireturn, 1) := by decide +kernel
set_option maxRecDepth 20000 in
theorem ggX5_waxedFor_X5_in : GoodIn wsX5_waxedFor wsX5_in := goodIn_r _ [7] (by decide +kernel) (by decide +kernel)
set_option maxRecDepth 20000 in
theorem gX5_waxedFor_X5_in : GoodIn wsX5_waxedFor (va_wsS RX5 60 yX5_in wsX5_in) := goodIn_app (goodIn_of _ (by decide +kernel)) ggX5_waxedFor_X5_in
set_option maxRecDepth 20000 in
theorem ggX5_waxedFor_X5_moveAll : GoodIn wsX5_waxedFor wsX5_moveAll := goodIn_r _ [10] (by decide +kernel) (by decide +kernel)
set_option maxRecDepth 20000 in
theorem gX5_waxedFor_X5_moveAll : GoodIn wsX5_waxedFor (va_wsS RX5 186 yX5_moveAll wsX5_moveAll) := goodIn_app (goodIn_of _ (by decide +kernel)) ggX5_waxedFor_X5_moveAll
set_option maxRecDepth 20000 in
theorem ggX5_waxedFor_X5_ones : GoodIn wsX5_waxedFor wsX5_ones := goodIn_r _ [13] (by decide +kernel) (by decide +kernel)
set_option maxRecDepth 20000 in
theorem gX5_waxedFor_X5_ones : GoodIn wsX5_waxedFor (va_wsS RX5 216 yX5_ones wsX5_ones) := goodIn_app (goodIn_of _ (by decide +kernel)) ggX5_waxedFor_X5_ones
set_option maxRecDepth 20000 in
theorem ggX5_waxedFor_X5_isWaxed : GoodIn wsX5_waxedFor wsX5_isWaxed := goodIn_r _ [17, 2, 18, 19, 20, 6, 21, 22, 23, 24, 25, 26, 3, 27, 28, 29, 30, 31, 1, 32, 33, 34, 35, 36, 37, 38, 39, 40, 41, 42, 43, 44, 45, 46, 47, 48, 49, 50, 51, 52, 53, 54, 55, 56, 57, 58, 59, 60, 61, 62, 63, 64, 65, 66, 11, 12, 13, 67, 68, 69, 70, 71, 72, 73, 74, 75, 76, 77, 78, 79, 80, 81, 82, 83, 84, 85, 86, 8, 9, 10, 87, 88, 89, 90, 91, 92, 93, 94, 95, 96, 97, 98, 99, 100, 101, 102, 103, 104, 105, 106, 107, 108, 109, 110, 111, 112, 113, 114, 115, 116] (by decide +kernel) (by decide +kernel)
set_option maxRecDepth 20000 in
theorem gX5_waxedFor_X5_isWaxed : GoodIn wsX5_waxedFor (wsV RX5 288 RX5 yX5_isWaxed wsX5_isWaxed) := goodIn_app (goodIn_of _ (by decide +kernel)) ggX5_waxedFor_X5_isWaxed
theorem dX5_waxedFor_0 : decode cX5_waxedFor 0 = .ok (.iload_n 1, 1) := by decide +kernel
theorem dX5_waxedFor_1 : decode cX5_waxedFor 1 = .ok (.iconst 1, 1) := by decide +kernel
theorem dX5_waxedFor_2 : decode cX5_waxedFor 2 = .ok (.bipush 10, 2) := by decide +kernel
theorem dX5_waxedFor_4 : decode cX5_waxedFor 4 = .ok (.invokestatic 60, 3) := by decide +kernel
theorem dX5_waxedFor_7 : decode cX5_waxedFor 7 = .ok (.ifCond .eq 14, 3) := by decide +kernel
theorem dX5_waxedFor_10 : decode cX5_waxedFor 10 = .ok (.iload_n 2, 1) := by decide +kernel
theorem dX5_waxedFor_11 : decode cX5_waxedFor 11 = .ok (.iconst 0, 1) := by decide +kernel
theorem dX5_waxedFor_12 : decode cX5_waxedFor 12 = .ok (.ldc_w 258, 3) := by decide +kernel
theorem dX5_waxedFor_15 : decode cX5_waxedFor 15 = .ok (.invokestatic 60, 3) := by decide +kernel
theorem dX5_waxedFor_18 : decode cX5_waxedFor 18 = .ok (.ifCond .ne 5, 3) := by decide +kernel
theorem dX5_waxedFor_21 : decode cX5_waxedFor 21 = .ok (.iconst (-1), 1) := by decide +kernel
theorem dX5_waxedFor_22 : decode cX5_waxedFor 22 = .ok (.ireturn, 1) := by decide +kernel
theorem dX5_waxedFor_23 : decode cX5_waxedFor 23 = .ok (.aload_n 0, 1) := by decide +kernel
theorem dX5_waxedFor_24 : decode cX5_waxedFor 24 = .ok (.getfield 7, 3) := by decide +kernel
theorem dX5_waxedFor_27 : decode cX5_waxedFor 27 = .ok (.aload_n 0, 1) := by decide +kernel
theorem dX5_waxedFor_28 : decode cX5_waxedFor 28 = .ok (.getfield 19, 3) := by decide +kernel
theorem dX5_waxedFor_31 : decode cX5_waxedFor 31 = .ok (.invokestatic 186, 3) := by decide +kernel
theorem dX5_waxedFor_34 : decode cX5_waxedFor 34 = .ok (.iconst (-1), 1) := by decide +kernel
theorem dX5_waxedFor_35 : decode cX5_waxedFor 35 = .ok (.istore_n 3, 1) := by decide +kernel
theorem dX5_waxedFor_36 : decode cX5_waxedFor 36 = .ok (.iconst 0, 1) := by decide +kernel
theorem dX5_waxedFor_37 : decode cX5_waxedFor 37 = .ok (.istore 4, 2) := by decide +kernel
theorem dX5_waxedFor_39 : decode cX5_waxedFor 39 = .ok (.iload 4, 2) := by decide +kernel
theorem dX5_waxedFor_41 : decode cX5_waxedFor 41 = .ok (.sipush 1024, 3) := by decide +kernel
theorem dX5_waxedFor_44 : decode cX5_waxedFor 44 = .ok (.if_icmp .ge 39, 3) := by decide +kernel
theorem dX5_waxedFor_47 : decode cX5_waxedFor 47 = .ok (.iload_n 3, 1) := by decide +kernel
theorem dX5_waxedFor_48 : decode cX5_waxedFor 48 = .ok (.ifCond .lt 15, 3) := by decide +kernel
theorem dX5_waxedFor_51 : decode cX5_waxedFor 51 = .ok (.iload 4, 2) := by decide +kernel
theorem dX5_waxedFor_53 : decode cX5_waxedFor 53 = .ok (.invokestatic 216, 3) := by decide +kernel
theorem dX5_waxedFor_56 : decode cX5_waxedFor 56 = .ok (.iload_n 3, 1) := by decide +kernel
theorem dX5_waxedFor_57 : decode cX5_waxedFor 57 = .ok (.invokestatic 216, 3) := by decide +kernel
theorem dX5_waxedFor_60 : decode cX5_waxedFor 60 = .ok (.if_icmp .ge 17, 3) := by decide +kernel
theorem dX5_waxedFor_63 : decode cX5_waxedFor 63 = .ok (.aload_n 0, 1) := by decide +kernel
theorem dX5_waxedFor_64 : decode cX5_waxedFor 64 = .ok (.iload 4, 2) := by decide +kernel
theorem dX5_waxedFor_66 : decode cX5_waxedFor 66 = .ok (.iload_n 1, 1) := by decide +kernel
theorem dX5_waxedFor_67 : decode cX5_waxedFor 67 = .ok (.iload_n 2, 1) := by decide +kernel
theorem dX5_waxedFor_68 : decode cX5_waxedFor 68 = .ok (.invokevirtual 288, 3) := by decide +kernel
theorem dX5_waxedFor_71 : decode cX5_waxedFor 71 = .ok (.ifCond .eq 6, 3) := by decide +kernel
theorem dX5_waxedFor_74 : decode cX5_waxedFor 74 = .ok (.iload 4, 2) := by decide +kernel
theorem dX5_waxedFor_76 : decode cX5_waxedFor 76 = .ok (.istore_n 3, 1) := by decide +kernel
theorem dX5_waxedFor_77 : decode cX5_waxedFor 77 = .ok (.iinc 4 1, 3) := by decide +kernel
theorem dX5_waxedFor_80 : decode cX5_waxedFor 80 = .ok (.goto (-41), 3) := by decide +kernel
theorem dX5_waxedFor_83 : decode cX5_waxedFor 83 = .ok (.iload_n 3, 1) := by decide +kernel
theorem dX5_waxedFor_84 : decode cX5_waxedFor 84 = .ok (.ifCond .ge 8, 3) := by decide +kernel
theorem dX5_waxedFor_87 : decode cX5_waxedFor 87 = .ok (.bipush (-3), 2) := by decide +kernel
theorem dX5_waxedFor_89 : decode cX5_waxedFor 89 = .ok (.goto 4, 3) := by decide +kernel
theorem dX5_waxedFor_92 : decode cX5_waxedFor 92 = .ok (.iload_n 3, 1) := by decide +kernel
theorem dX5_waxedFor_93 : decode cX5_waxedFor 93 = .ok (.ireturn, 1) := by decide +kernel
set_option maxRecDepth 20000 in
theorem ggX5_sameHand_X5_its : GoodIn wsX5_sameHand wsX5_its := goodIn_r _ [6, 1, 7, 8, 9, 10, 11, 12, 13, 14, 15, 16, 17, 18, 19, 20, 21, 22, 23, 24, 25, 26, 27, 28, 29, 30, 31, 32, 33, 34, 35, 36] (by decide +kernel) (by decide +kernel)
set_option maxRecDepth 20000 in
theorem gX5_sameHand_X5_its : GoodIn wsX5_sameHand (wsV RX5 210 RX5 yX5_its wsX5_its) := goodIn_app (goodIn_of _ (by decide +kernel)) ggX5_sameHand_X5_its
theorem dX5_sameHand_0 : decode cX5_sameHand 0 = .ok (.iconst 0, 1) := by decide +kernel
theorem dX5_sameHand_1 : decode cX5_sameHand 1 = .ok (.istore_n 2, 1) := by decide +kernel
theorem dX5_sameHand_2 : decode cX5_sameHand 2 = .ok (.iconst 0, 1) := by decide +kernel
theorem dX5_sameHand_3 : decode cX5_sameHand 3 = .ok (.istore_n 3, 1) := by decide +kernel
theorem dX5_sameHand_4 : decode cX5_sameHand 4 = .ok (.iload_n 3, 1) := by decide +kernel
theorem dX5_sameHand_5 : decode cX5_sameHand 5 = .ok (.aload_n 0, 1) := by decide +kernel
theorem dX5_sameHand_6 : decode cX5_sameHand 6 = .ok (.getfield 7, 3) := by decide +kernel
theorem dX5_sameHand_9 : decode cX5_sameHand 9 = .ok (.bipush 6, 2) := by decide +kernel
theorem dX5_sameHand_11 : decode cX5_sameHand 11 = .ok (.iaload, 1) := by decide +kernel
theorem dX5_sameHand_12 : decode cX5_sameHand 12 = .ok (.if_icmp .ge 34, 3) := by decide +kernel
theorem dX5_sameHand_15 : decode cX5_sameHand 15 = .ok (.iload_n 2, 1) := by decide +kernel
theorem dX5_sameHand_16 : decode cX5_sameHand 16 = .ok (.aload_n 0, 1) := by decide +kernel
theorem dX5_sameHand_17 : decode cX5_sameHand 17 = .ok (.iload_n 3, 1) := by decide +kernel
theorem dX5_sameHand_18 : decode cX5_sameHand 18 = .ok (.iconst 1, 1) := by decide +kernel
theorem dX5_sameHand_19 : decode cX5_sameHand 19 = .ok (.invokevirtual 210, 3) := by decide +kernel
theorem dX5_sameHand_22 : decode cX5_sameHand 22 = .ok (.aload_n 0, 1) := by decide +kernel
theorem dX5_sameHand_23 : decode cX5_sameHand 23 = .ok (.iload_n 1, 1) := by decide +kernel
theorem dX5_sameHand_24 : decode cX5_sameHand 24 = .ok (.iconst 1, 1) := by decide +kernel
theorem dX5_sameHand_25 : decode cX5_sameHand 25 = .ok (.invokevirtual 210, 3) := by decide +kernel
theorem dX5_sameHand_28 : decode cX5_sameHand 28 = .ok (.if_icmp .ne 9, 3) := by decide +kernel
theorem dX5_sameHand_31 : decode cX5_sameHand 31 = .ok (.iconst 1, 1) := by decide +kernel
theorem dX5_sameHand_32 : decode cX5_sameHand 32 = .ok (.iload_n 3, 1) := by decide +kernel
theorem dX5_sameHand_33 : decode cX5_sameHand 33 = .ok (.ishl, 1) := by decide +kernel
theorem dX5_sameHand_34 : decode cX5_sameHand 34 = .ok (.goto 4, 3) := by decide +kernel
theorem dX5_sameHand_37 : decode cX5_sameHand 37 = .ok (.iconst 0, 1) := by decide +kernel
theorem dX5_sameHand_38 : decode cX5_sameHand 38 = .ok (.ior, 1) := by decide +kernel
theorem dX5_sameHand_39 : decode cX5_sameHand 39 = .ok (.istore_n 2, 1) := by decide +kernel
theorem dX5_sameHand_40 : decode cX5_sameHand 40 = .ok (.iinc 3 1, 3) := by decide +kernel
theorem dX5_sameHand_43 : decode cX5_sameHand 43 = .ok (.goto (-39), 3) := by decide +kernel
theorem dX5_sameHand_46 : decode cX5_sameHand 46 = .ok (.iload_n 2, 1) := by decide +kernel
theorem dX5_sameHand_47 : decode cX5_sameHand 47 = .ok (.ireturn, 1) := by decide +kernel
set_option maxRecDepth 20000 in
theorem ggX5_handsOfAll_X5_its : GoodIn wsX5_handsOfAll wsX5_its := goodIn_r _ [6, 1, 10, 11, 12, 13, 14, 15, 16, 17, 18, 19, 20, 21, 22, 23, 24, 25, 26, 27, 28, 29, 30, 31, 32, 33, 34, 35, 36, 37, 38, 39] (by decide +kernel) (by decide +kernel)
set_option maxRecDepth 20000 in
theorem gX5_handsOfAll_X5_its : GoodIn wsX5_handsOfAll (wsV RX5 210 RX5 yX5_its wsX5_its) := goodIn_app (goodIn_of _ (by decide +kernel)) ggX5_handsOfAll_X5_its
set_option maxRecDepth 20000 in
theorem ggX5_handsOfAll_X5_ones : GoodIn wsX5_handsOfAll wsX5_ones := goodIn_r _ [9] (by decide +kernel) (by decide +kernel)
set_option maxRecDepth 20000 in
theorem gX5_handsOfAll_X5_ones : GoodIn wsX5_handsOfAll (va_wsS RX5 216 yX5_ones wsX5_ones) := goodIn_app (goodIn_of _ (by decide +kernel)) ggX5_handsOfAll_X5_ones
theorem dX5_handsOfAll_0 : decode cX5_handsOfAll 0 = .ok (.iconst 0, 1) := by decide +kernel
theorem dX5_handsOfAll_1 : decode cX5_handsOfAll 1 = .ok (.istore_n 1, 1) := by decide +kernel
theorem dX5_handsOfAll_2 : decode cX5_handsOfAll 2 = .ok (.iconst 0, 1) := by decide +kernel
theorem dX5_handsOfAll_3 : decode cX5_handsOfAll 3 = .ok (.istore_n 2, 1) := by decide +kernel
theorem dX5_handsOfAll_4 : decode cX5_handsOfAll 4 = .ok (.iload_n 2, 1) := by decide +kernel
theorem dX5_handsOfAll_5 : decode cX5_handsOfAll 5 = .ok (.aload_n 0, 1) := by decide +kernel
theorem dX5_handsOfAll_6 : decode cX5_handsOfAll 6 = .ok (.getfield 7, 3) := by decide +kernel
theorem dX5_handsOfAll_9 : decode cX5_handsOfAll 9 = .ok (.bipush 6, 2) := by decide +kernel
theorem dX5_handsOfAll_11 : decode cX5_handsOfAll 11 = .ok (.iaload, 1) := by decide +kernel
theorem dX5_handsOfAll_12 : decode cX5_handsOfAll 12 = .ok (.if_icmp .ge 20, 3) := by decide +kernel
theorem dX5_handsOfAll_15 : decode cX5_handsOfAll 15 = .ok (.iload_n 1, 1) := by decide +kernel
theorem dX5_handsOfAll_16 : decode cX5_handsOfAll 16 = .ok (.iconst 1, 1) := by decide +kernel
theorem dX5_handsOfAll_17 : decode cX5_handsOfAll 17 = .ok (.aload_n 0, 1) := by decide +kernel
theorem dX5_handsOfAll_18 : decode cX5_handsOfAll 18 = .ok (.iload_n 2, 1) := by decide +kernel
theorem dX5_handsOfAll_19 : decode cX5_handsOfAll 19 = .ok (.iconst 1, 1) := by decide +kernel
theorem dX5_handsOfAll_20 : decode cX5_handsOfAll 20 = .ok (.invokevirtual 210, 3) := by decide +kernel
theorem dX5_handsOfAll_23 : decode cX5_handsOfAll 23 = .ok (.ishl, 1) := by decide +kernel
theorem dX5_handsOfAll_24 : decode cX5_handsOfAll 24 = .ok (.ior, 1) := by decide +kernel
theorem dX5_handsOfAll_25 : decode cX5_handsOfAll 25 = .ok (.istore_n 1, 1) := by decide +kernel
theorem dX5_handsOfAll_26 : decode cX5_handsOfAll 26 = .ok (.iinc 2 1, 3) := by decide +kernel
theorem dX5_handsOfAll_29 : decode cX5_handsOfAll 29 = .ok (.goto (-25), 3) := by decide +kernel
theorem dX5_handsOfAll_32 : decode cX5_handsOfAll 32 = .ok (.iload_n 1, 1) := by decide +kernel
theorem dX5_handsOfAll_33 : decode cX5_handsOfAll 33 = .ok (.invokestatic 216, 3) := by decide +kernel
theorem dX5_handsOfAll_36 : decode cX5_handsOfAll 36 = .ok (.ireturn, 1) := by decide +kernel
set_option maxRecDepth 20000 in
theorem ggX5_hands_X5_handsOfAll : GoodIn wsX5_hands wsX5_handsOfAll := goodIn_r _ [5, 6, 7, 8, 9, 4, 10, 11, 12, 13, 25, 26, 27, 28, 29, 30, 31, 32, 33, 34, 35, 36, 37, 38, 39, 40, 41, 42, 43, 44, 45, 46, 47, 48, 49, 50, 51, 52, 53, 54] (by decide +kernel) (by decide +kernel)
set_option maxRecDepth 20000 in
theorem gX5_hands_X5_handsOfAll : GoodIn wsX5_hands (wsV RX5 291 RX5 yX5_handsOfAll wsX5_handsOfAll) := goodIn_app (goodIn_of _ (by decide +kernel)) ggX5_hands_X5_handsOfAll
set_option maxRecDepth 20000 in
theorem ggX5_hands_X5_isOne : GoodIn wsX5_hands wsX5_isOne := goodIn_r _ [17, 6, 18, 19, 4, 20, 25, 26, 27, 28, 29, 30, 31, 32, 33, 34, 35, 36, 37, 38, 39, 40, 41, 42, 43, 44, 45, 46, 47, 48, 49, 50, 51, 52, 53, 54] (by decide +kernel) (by decide +kernel)
set_option maxRecDepth 20000 in
theorem gX5_hands_X5_isOne : GoodIn wsX5_hands (wsV RX5 207 RX5 yX5_isOne wsX5_isOne) := goodIn_app (goodIn_of _ (by decide +kernel)) ggX5_hands_X5_isOne
set_option maxRecDepth 20000 in
theorem ggX5_hands_X5_sameHand : GoodIn wsX5_hands wsX5_sameHand := goodIn_r _ [24, 6, 7, 8, 9, 4, 10, 25, 26, 27, 28, 29, 30, 31, 32, 33, 34, 35, 36, 37, 38, 39, 40, 41, 42, 43, 44, 45, 46, 47, 48, 49, 50, 51, 52, 53, 54] (by decide +kernel) (by decide +kernel)
set_option maxRecDepth 20000 in
theorem gX5_hands_X5_sameHand : GoodIn wsX5_hands (wsV RX5 294 RX5 yX5_sameHand wsX5_sameHand) := goodIn_app (goodIn_of _ (by decide +kernel)) ggX5_hands_X5_sameHand
theorem dX5_hands_0 : decode cX5_hands 0 = .ok (.iload_n 1, 1) := by decide +kernel
theorem dX5_hands_1 : decode cX5_hands 1 = .ok (.ifCond .ne 8, 3) := by decide +kernel
theorem dX5_hands_4 : decode cX5_hands 4 = .ok (.aload_n 0, 1) := by decide +kernel
theorem dX5_hands_5 : decode cX5_hands 5 = .ok (.invokevirtual 291, 3) := by decide +kernel
theorem dX5_hands_8 : decode cX5_hands 8 = .ok (.ireturn, 1) := by decide +kernel
theorem dX5_hands_9 : decode cX5_hands 9 = .ok (.iload_n 1, 1) := by decide +kernel
theorem dX5_hands_10 : decode cX5_hands 10 = .ok (.iconst 1, 1) := by decide +kernel
theorem dX5_hands_11 : decode cX5_hands 11 = .ok (.if_icmp .ne 19, 3) := by decide +kernel
theorem dX5_hands_14 : decode cX5_hands 14 = .ok (.aload_n 0, 1) := by decide +kernel
theorem dX5_hands_15 : decode cX5_hands 15 = .ok (.iload_n 2, 1) := by decide +kernel
theorem dX5_hands_16 : decode cX5_hands 16 = .ok (.invokevirtual 207, 3) := by decide +kernel
theorem dX5_hands_19 : decode cX5_hands 19 = .ok (.ifCond .eq 11, 3) := by decide +kernel
theorem dX5_hands_22 : decode cX5_hands 22 = .ok (.aload_n 0, 1) := by decide +kernel
theorem dX5_hands_23 : decode cX5_hands 23 = .ok (.iload_n 2, 1) := by decide +kernel
theorem dX5_hands_24 : decode cX5_hands 24 = .ok (.invokevirtual 294, 3) := by decide +kernel
theorem dX5_hands_27 : decode cX5_hands 27 = .ok (.goto 4, 3) := by decide +kernel
theorem dX5_hands_30 : decode cX5_hands 30 = .ok (.iconst (-1), 1) := by decide +kernel
theorem dX5_hands_31 : decode cX5_hands 31 = .ok (.ireturn, 1) := by decide +kernel
set_option maxRecDepth 20000 in
theorem ggX5_isSo_X5_nightGoes : GoodIn wsX5_isSo wsX5_nightGoes := goodIn_r _ [10, 5, 11, 12, 13, 14, 15, 16, 9, 17, 18, 19, 20, 21, 22, 23, 24, 25, 26, 27, 28, 29, 30, 31, 32, 33, 34, 35, 36, 37, 38, 39, 40, 41, 42, 43, 44, 45, 46, 47, 48, 49, 50, 51, 52, 53, 54, 55, 56, 57, 58, 59, 60, 61, 62, 63, 64, 65, 66, 67, 68, 69, 70, 71, 72, 73, 74, 75, 79, 80, 81, 82, 83, 84, 85, 86, 87, 88, 89, 90, 91, 92, 93, 94, 95, 96, 97, 98, 99, 100, 101, 102, 103, 104, 105, 106, 107, 108] (by decide +kernel) (by decide +kernel)
set_option maxRecDepth 20000 in
theorem gX5_isSo_X5_nightGoes : GoodIn wsX5_isSo (wsV RX5 259 RX5 yX5_nightGoes wsX5_nightGoes) := goodIn_app (goodIn_of _ (by decide +kernel)) ggX5_isSo_X5_nightGoes
set_option maxRecDepth 20000 in
theorem ggX5_isSo_X5_its : GoodIn wsX5_isSo wsX5_its := goodIn_r _ [21, 5, 79, 80, 81, 82, 83, 84, 85, 86, 87, 88, 89, 90, 91, 92, 93, 94, 95, 96, 97, 98, 99, 100, 101, 102, 103, 104, 105, 106, 107, 108] (by decide +kernel) (by decide +kernel)
set_option maxRecDepth 20000 in
theorem gX5_isSo_X5_its : GoodIn wsX5_isSo (wsV RX5 210 RX5 yX5_its wsX5_its) := goodIn_app (goodIn_of _ (by decide +kernel)) ggX5_isSo_X5_its
set_option maxRecDepth 20000 in
theorem ggX5_isSo_X5_moveAll : GoodIn wsX5_isSo wsX5_moveAll := goodIn_r _ [78] (by decide +kernel) (by decide +kernel)
set_option maxRecDepth 20000 in
theorem gX5_isSo_X5_moveAll : GoodIn wsX5_isSo (va_wsS RX5 186 yX5_moveAll wsX5_moveAll) := goodIn_app (goodIn_of _ (by decide +kernel)) ggX5_isSo_X5_moveAll
theorem dX5_isSo_0 : decode cX5_isSo 0 = .ok (.iconst 1, 1) := by decide +kernel
theorem dX5_isSo_1 : decode cX5_isSo 1 = .ok (.istore_n 3, 1) := by decide +kernel
theorem dX5_isSo_2 : decode cX5_isSo 2 = .ok (.iconst 0, 1) := by decide +kernel
theorem dX5_isSo_3 : decode cX5_isSo 3 = .ok (.istore 4, 2) := by decide +kernel
theorem dX5_isSo_5 : decode cX5_isSo 5 = .ok (.iload 4, 2) := by decide +kernel
theorem dX5_isSo_7 : decode cX5_isSo 7 = .ok (.aload_n 0, 1) := by decide +kernel
theorem dX5_isSo_8 : decode cX5_isSo 8 = .ok (.getfield 37, 3) := by decide +kernel
theorem dX5_isSo_11 : decode cX5_isSo 11 = .ok (.iload_n 1, 1) := by decide +kernel
theorem dX5_isSo_12 : decode cX5_isSo 12 = .ok (.iaload, 1) := by decide +kernel
theorem dX5_isSo_13 : decode cX5_isSo 13 = .ok (.if_icmp .ge 65, 3) := by decide +kernel
theorem dX5_isSo_16 : decode cX5_isSo 16 = .ok (.iload_n 3, 1) := by decide +kernel
theorem dX5_isSo_17 : decode cX5_isSo 17 = .ok (.ifCond .eq 61, 3) := by decide +kernel
theorem dX5_isSo_20 : decode cX5_isSo 20 = .ok (.aload_n 0, 1) := by decide +kernel
theorem dX5_isSo_21 : decode cX5_isSo 21 = .ok (.invokevirtual 259, 3) := by decide +kernel
theorem dX5_isSo_24 : decode cX5_isSo 24 = .ok (.aload_n 0, 1) := by decide +kernel
theorem dX5_isSo_25 : decode cX5_isSo 25 = .ok (.getfield 40, 3) := by decide +kernel
theorem dX5_isSo_28 : decode cX5_isSo 28 = .ok (.bipush 40, 2) := by decide +kernel
theorem dX5_isSo_30 : decode cX5_isSo 30 = .ok (.iload_n 1, 1) := by decide +kernel
theorem dX5_isSo_31 : decode cX5_isSo 31 = .ok (.imul, 1) := by decide +kernel
theorem dX5_isSo_32 : decode cX5_isSo 32 = .ok (.iload 4, 2) := by decide +kernel
theorem dX5_isSo_34 : decode cX5_isSo 34 = .ok (.iadd, 1) := by decide +kernel
theorem dX5_isSo_35 : decode cX5_isSo 35 = .ok (.laload, 1) := by decide +kernel
theorem dX5_isSo_36 : decode cX5_isSo 36 = .ok (.ldc2_w 100, 3) := by decide +kernel
theorem dX5_isSo_39 : decode cX5_isSo 39 = .ok (.lcmp, 1) := by decide +kernel
theorem dX5_isSo_40 : decode cX5_isSo 40 = .ok (.ifCond .eq 26, 3) := by decide +kernel
theorem dX5_isSo_43 : decode cX5_isSo 43 = .ok (.aload_n 0, 1) := by decide +kernel
theorem dX5_isSo_44 : decode cX5_isSo 44 = .ok (.getfield 40, 3) := by decide +kernel
theorem dX5_isSo_47 : decode cX5_isSo 47 = .ok (.bipush 40, 2) := by decide +kernel
theorem dX5_isSo_49 : decode cX5_isSo 49 = .ok (.iload_n 1, 1) := by decide +kernel
theorem dX5_isSo_50 : decode cX5_isSo 50 = .ok (.imul, 1) := by decide +kernel
theorem dX5_isSo_51 : decode cX5_isSo 51 = .ok (.iload 4, 2) := by decide +kernel
theorem dX5_isSo_53 : decode cX5_isSo 53 = .ok (.iadd, 1) := by decide +kernel
theorem dX5_isSo_54 : decode cX5_isSo 54 = .ok (.laload, 1) := by decide +kernel
theorem dX5_isSo_55 : decode cX5_isSo 55 = .ok (.aload_n 0, 1) := by decide +kernel
theorem dX5_isSo_56 : decode cX5_isSo 56 = .ok (.iload_n 2, 1) := by decide +kernel
theorem dX5_isSo_57 : decode cX5_isSo 57 = .ok (.iconst 3, 1) := by decide +kernel
theorem dX5_isSo_58 : decode cX5_isSo 58 = .ok (.invokevirtual 210, 3) := by decide +kernel
theorem dX5_isSo_61 : decode cX5_isSo 61 = .ok (.i2l, 1) := by decide +kernel
theorem dX5_isSo_62 : decode cX5_isSo 62 = .ok (.lcmp, 1) := by decide +kernel
theorem dX5_isSo_63 : decode cX5_isSo 63 = .ok (.ifCond .ne 7, 3) := by decide +kernel
theorem dX5_isSo_66 : decode cX5_isSo 66 = .ok (.iconst 1, 1) := by decide +kernel
theorem dX5_isSo_67 : decode cX5_isSo 67 = .ok (.goto 4, 3) := by decide +kernel
theorem dX5_isSo_70 : decode cX5_isSo 70 = .ok (.iconst 0, 1) := by decide +kernel
theorem dX5_isSo_71 : decode cX5_isSo 71 = .ok (.istore_n 3, 1) := by decide +kernel
theorem dX5_isSo_72 : decode cX5_isSo 72 = .ok (.iinc 4 1, 3) := by decide +kernel
theorem dX5_isSo_75 : decode cX5_isSo 75 = .ok (.goto (-70), 3) := by decide +kernel
theorem dX5_isSo_78 : decode cX5_isSo 78 = .ok (.aload_n 0, 1) := by decide +kernel
theorem dX5_isSo_79 : decode cX5_isSo 79 = .ok (.getfield 19, 3) := by decide +kernel
theorem dX5_isSo_82 : decode cX5_isSo 82 = .ok (.aload_n 0, 1) := by decide +kernel
theorem dX5_isSo_83 : decode cX5_isSo 83 = .ok (.getfield 7, 3) := by decide +kernel
theorem dX5_isSo_86 : decode cX5_isSo 86 = .ok (.invokestatic 186, 3) := by decide +kernel
theorem dX5_isSo_89 : decode cX5_isSo 89 = .ok (.iload_n 3, 1) := by decide +kernel
theorem dX5_isSo_90 : decode cX5_isSo 90 = .ok (.ireturn, 1) := by decide +kernel
set_option maxRecDepth 20000 in
theorem ggX5_fits_X5_isShelf : GoodIn wsX5_fits wsX5_isShelf := goodIn_r _ [7, 8, 9, 6, 10] (by decide +kernel) (by decide +kernel)
set_option maxRecDepth 20000 in
theorem gX5_fits_X5_isShelf : GoodIn wsX5_fits (va_wsS RX5 297 yX5_isShelf wsX5_isShelf) := goodIn_app (goodIn_of _ (by decide +kernel)) ggX5_fits_X5_isShelf
set_option maxRecDepth 20000 in
theorem ggX5_fits_X5_isOne : GoodIn wsX5_fits wsX5_isOne := goodIn_r _ [14, 2, 8, 9, 6, 10, 94, 95, 96, 97, 98, 99, 100, 101, 102, 103, 104, 105, 106, 107, 108, 109, 110, 111, 112, 113, 114, 115, 116, 117, 118, 119, 120, 121, 122, 123] (by decide +kernel) (by decide +kernel)
set_option maxRecDepth 20000 in
theorem gX5_fits_X5_isOne : GoodIn wsX5_fits (wsV RX5 207 RX5 yX5_isOne wsX5_isOne) := goodIn_app (goodIn_of _ (by decide +kernel)) ggX5_fits_X5_isOne
set_option maxRecDepth 20000 in
theorem ggX5_fits_X5_in : GoodIn wsX5_fits wsX5_in := goodIn_r _ [10] (by decide +kernel) (by decide +kernel)
set_option maxRecDepth 20000 in
theorem gX5_fits_X5_in : GoodIn wsX5_fits (va_wsS RX5 60 yX5_in wsX5_in) := goodIn_app (goodIn_of _ (by decide +kernel)) ggX5_fits_X5_in
set_option maxRecDepth 20000 in
theorem ggX5_fits_X5_moveAll : GoodIn wsX5_fits wsX5_moveAll := goodIn_r _ [17] (by decide +kernel) (by decide +kernel)
set_option maxRecDepth 20000 in
theorem gX5_fits_X5_moveAll : GoodIn wsX5_fits (va_wsS RX5 186 yX5_moveAll wsX5_moveAll) := goodIn_app (goodIn_of _ (by decide +kernel)) ggX5_fits_X5_moveAll
set_option maxRecDepth 20000 in
theorem ggX5_fits_X5_sets : GoodIn wsX5_fits wsX5_sets := goodIn_r _ [21, 2, 94, 95, 96, 97, 98, 99, 100, 101, 102, 103, 104, 105, 106, 107, 108, 109, 110, 111, 112, 113, 114, 115, 116, 117, 118, 119, 120, 121, 122, 123] (by decide +kernel) (by decide +kernel)
set_option maxRecDepth 20000 in
theorem gX5_fits_X5_sets : GoodIn wsX5_fits (wsV RX5 203 RX5 yX5_sets wsX5_sets) := goodIn_app (goodIn_of _ (by decide +kernel)) ggX5_fits_X5_sets
set_option maxRecDepth 20000 in
theorem ggX5_fits_X5_isSo : GoodIn wsX5_fits wsX5_isSo := goodIn_r _ [25, 26, 27, 28, 3, 2, 29, 30, 31, 6, 32, 33, 34, 35, 36, 37, 38, 39, 40, 41, 42, 43, 44, 45, 46, 47, 48, 49, 50, 18, 19, 20, 21, 51, 52, 53, 54, 55, 56, 57, 58, 59, 60, 61, 62, 63, 64, 65, 66, 67, 68, 69, 70, 71, 72, 73, 74, 75, 76, 77, 78, 79, 80, 81, 82, 83, 84, 85, 86, 87, 88, 89, 90, 91, 92, 93, 15, 16, 17, 94, 95, 96, 97, 98, 99, 100, 101, 102, 103, 104, 105, 106, 107, 108, 109, 110, 111, 112, 113, 114, 115, 116, 117, 118, 119, 120, 121, 122, 123] (by decide +kernel) (by decide +kernel)
set_option maxRecDepth 20000 in
theorem gX5_fits_X5_isSo : GoodIn wsX5_fits (wsV RX5 300 RX5 yX5_isSo wsX5_isSo) := goodIn_app (goodIn_of _ (by decide +kernel)) ggX5_fits_X5_isSo
theorem dX5_fits_0 : decode cX5_fits 0 = .ok (.iload_n 1, 1) := by decide +kernel
theorem dX5_fits_1 : decode cX5_fits 1 = .ok (.invokestatic 297, 3) := by decide +kernel
theorem dX5_fits_4 : decode cX5_fits 4 = .ok (.ifCond .eq 20, 3) := by decide +kernel
theorem dX5_fits_7 : decode cX5_fits 7 = .ok (.aload_n 0, 1) := by decide +kernel
theorem dX5_fits_8 : decode cX5_fits 8 = .ok (.iload_n 2, 1) := by decide +kernel
theorem dX5_fits_9 : decode cX5_fits 9 = .ok (.invokevirtual 207, 3) := by decide +kernel
theorem dX5_fits_12 : decode cX5_fits 12 = .ok (.ifCond .eq 12, 3) := by decide +kernel
theorem dX5_fits_15 : decode cX5_fits 15 = .ok (.iload_n 3, 1) := by decide +kernel
theorem dX5_fits_16 : decode cX5_fits 16 = .ok (.iconst 0, 1) := by decide +kernel
theorem dX5_fits_17 : decode cX5_fits 17 = .ok (.iconst 1, 1) := by decide +kernel
theorem dX5_fits_18 : decode cX5_fits 18 = .ok (.invokestatic 60, 3) := by decide +kernel
theorem dX5_fits_21 : decode cX5_fits 21 = .ok (.ifCond .ne 5, 3) := by decide +kernel
theorem dX5_fits_24 : decode cX5_fits 24 = .ok (.iconst (-1), 1) := by decide +kernel
theorem dX5_fits_25 : decode cX5_fits 25 = .ok (.ireturn, 1) := by decide +kernel
theorem dX5_fits_26 : decode cX5_fits 26 = .ok (.aload_n 0, 1) := by decide +kernel
theorem dX5_fits_27 : decode cX5_fits 27 = .ok (.getfield 34, 3) := by decide +kernel
theorem dX5_fits_30 : decode cX5_fits 30 = .ok (.iload_n 1, 1) := by decide +kernel
theorem dX5_fits_31 : decode cX5_fits 31 = .ok (.iaload, 1) := by decide +kernel
theorem dX5_fits_32 : decode cX5_fits 32 = .ok (.ifCond .ge 6, 3) := by decide +kernel
theorem dX5_fits_35 : decode cX5_fits 35 = .ok (.bipush (-11), 2) := by decide +kernel
theorem dX5_fits_37 : decode cX5_fits 37 = .ok (.ireturn, 1) := by decide +kernel
theorem dX5_fits_38 : decode cX5_fits 38 = .ok (.aload_n 0, 1) := by decide +kernel
theorem dX5_fits_39 : decode cX5_fits 39 = .ok (.getfield 7, 3) := by decide +kernel
theorem dX5_fits_42 : decode cX5_fits 42 = .ok (.aload_n 0, 1) := by decide +kernel
theorem dX5_fits_43 : decode cX5_fits 43 = .ok (.getfield 19, 3) := by decide +kernel
theorem dX5_fits_46 : decode cX5_fits 46 = .ok (.invokestatic 186, 3) := by decide +kernel
theorem dX5_fits_49 : decode cX5_fits 49 = .ok (.iconst 0, 1) := by decide +kernel
theorem dX5_fits_50 : decode cX5_fits 50 = .ok (.istore 4, 2) := by decide +kernel
theorem dX5_fits_52 : decode cX5_fits 52 = .ok (.bipush (-3), 2) := by decide +kernel
theorem dX5_fits_54 : decode cX5_fits 54 = .ok (.istore 5, 2) := by decide +kernel
theorem dX5_fits_56 : decode cX5_fits 56 = .ok (.bipush 9, 2) := by decide +kernel
theorem dX5_fits_58 : decode cX5_fits 58 = .ok (.istore 6, 2) := by decide +kernel
theorem dX5_fits_60 : decode cX5_fits 60 = .ok (.iload 6, 2) := by decide +kernel
theorem dX5_fits_62 : decode cX5_fits 62 = .ok (.ifCond .lt 54, 3) := by decide +kernel
theorem dX5_fits_65 : decode cX5_fits 65 = .ok (.aload_n 0, 1) := by decide +kernel
theorem dX5_fits_66 : decode cX5_fits 66 = .ok (.iload_n 2, 1) := by decide +kernel
theorem dX5_fits_67 : decode cX5_fits 67 = .ok (.iconst 1, 1) := by decide +kernel
theorem dX5_fits_68 : decode cX5_fits 68 = .ok (.iload 6, 2) := by decide +kernel
theorem dX5_fits_70 : decode cX5_fits 70 = .ok (.invokevirtual 203, 3) := by decide +kernel
theorem dX5_fits_73 : decode cX5_fits 73 = .ok (.aload_n 0, 1) := by decide +kernel
theorem dX5_fits_74 : decode cX5_fits 74 = .ok (.iload_n 1, 1) := by decide +kernel
theorem dX5_fits_75 : decode cX5_fits 75 = .ok (.iload_n 2, 1) := by decide +kernel
theorem dX5_fits_76 : decode cX5_fits 76 = .ok (.invokevirtual 300, 3) := by decide +kernel
theorem dX5_fits_79 : decode cX5_fits 79 = .ok (.istore 7, 2) := by decide +kernel
theorem dX5_fits_81 : decode cX5_fits 81 = .ok (.iload 4, 2) := by decide +kernel
theorem dX5_fits_83 : decode cX5_fits 83 = .ok (.iload 7, 2) := by decide +kernel
theorem dX5_fits_85 : decode cX5_fits 85 = .ok (.ifCond .eq 7, 3) := by decide +kernel
theorem dX5_fits_88 : decode cX5_fits 88 = .ok (.iconst 1, 1) := by decide +kernel
theorem dX5_fits_89 : decode cX5_fits 89 = .ok (.goto 4, 3) := by decide +kernel
theorem dX5_fits_92 : decode cX5_fits 92 = .ok (.iconst 0, 1) := by decide +kernel
theorem dX5_fits_93 : decode cX5_fits 93 = .ok (.iadd, 1) := by decide +kernel
theorem dX5_fits_94 : decode cX5_fits 94 = .ok (.istore 4, 2) := by decide +kernel
theorem dX5_fits_96 : decode cX5_fits 96 = .ok (.iload 7, 2) := by decide +kernel
theorem dX5_fits_98 : decode cX5_fits 98 = .ok (.ifCond .eq 8, 3) := by decide +kernel
theorem dX5_fits_101 : decode cX5_fits 101 = .ok (.iload 6, 2) := by decide +kernel
theorem dX5_fits_103 : decode cX5_fits 103 = .ok (.goto 5, 3) := by decide +kernel
theorem dX5_fits_106 : decode cX5_fits 106 = .ok (.iload 5, 2) := by decide +kernel
theorem dX5_fits_108 : decode cX5_fits 108 = .ok (.istore 5, 2) := by decide +kernel
theorem dX5_fits_110 : decode cX5_fits 110 = .ok (.iinc 6 (-1), 3) := by decide +kernel
theorem dX5_fits_113 : decode cX5_fits 113 = .ok (.goto (-53), 3) := by decide +kernel
theorem dX5_fits_116 : decode cX5_fits 116 = .ok (.iload_n 3, 1) := by decide +kernel
theorem dX5_fits_117 : decode cX5_fits 117 = .ok (.ifCond .ne 8, 3) := by decide +kernel
theorem dX5_fits_120 : decode cX5_fits 120 = .ok (.iload 4, 2) := by decide +kernel
theorem dX5_fits_122 : decode cX5_fits 122 = .ok (.goto 5, 3) := by decide +kernel
theorem dX5_fits_125 : decode cX5_fits 125 = .ok (.iload 5, 2) := by decide +kernel
theorem dX5_fits_127 : decode cX5_fits 127 = .ok (.ireturn, 1) := by decide +kernel
theorem dX5_lowest_0 : decode cX5_lowest 0 = .ok (.lload_n 2, 1) := by decide +kernel
theorem dX5_lowest_1 : decode cX5_lowest 1 = .ok (.lstore 5, 2) := by decide +kernel
theorem dX5_lowest_3 : decode cX5_lowest 3 = .ok (.lload_n 0, 1) := by decide +kernel
theorem dX5_lowest_4 : decode cX5_lowest 4 = .ok (.lstore 7, 2) := by decide +kernel
theorem dX5_lowest_6 : decode cX5_lowest 6 = .ok (.lload 7, 2) := by decide +kernel
theorem dX5_lowest_8 : decode cX5_lowest 8 = .ok (.lconst 0, 1) := by decide +kernel
theorem dX5_lowest_9 : decode cX5_lowest 9 = .ok (.lcmp, 1) := by decide +kernel
theorem dX5_lowest_10 : decode cX5_lowest 10 = .ok (.ifCond .eq 21, 3) := by decide +kernel
theorem dX5_lowest_13 : decode cX5_lowest 13 = .ok (.lload 5, 2) := by decide +kernel
theorem dX5_lowest_15 : decode cX5_lowest 15 = .ok (.lload 7, 2) := by decide +kernel
theorem dX5_lowest_17 : decode cX5_lowest 17 = .ok (.lrem, 1) := by decide +kernel
theorem dX5_lowest_18 : decode cX5_lowest 18 = .ok (.lstore 9, 2) := by decide +kernel
theorem dX5_lowest_20 : decode cX5_lowest 20 = .ok (.lload 7, 2) := by decide +kernel
theorem dX5_lowest_22 : decode cX5_lowest 22 = .ok (.lstore 5, 2) := by decide +kernel
theorem dX5_lowest_24 : decode cX5_lowest 24 = .ok (.lload 9, 2) := by decide +kernel
theorem dX5_lowest_26 : decode cX5_lowest 26 = .ok (.lstore 7, 2) := by decide +kernel
theorem dX5_lowest_28 : decode cX5_lowest 28 = .ok (.goto (-22), 3) := by decide +kernel
theorem dX5_lowest_31 : decode cX5_lowest 31 = .ok (.iload 4, 2) := by decide +kernel
theorem dX5_lowest_33 : decode cX5_lowest 33 = .ok (.ifCond .ne 10, 3) := by decide +kernel
theorem dX5_lowest_36 : decode cX5_lowest 36 = .ok (.lload_n 0, 1) := by decide +kernel
theorem dX5_lowest_37 : decode cX5_lowest 37 = .ok (.lload 5, 2) := by decide +kernel
theorem dX5_lowest_39 : decode cX5_lowest 39 = .ok (.ldiv, 1) := by decide +kernel
theorem dX5_lowest_40 : decode cX5_lowest 40 = .ok (.goto 7, 3) := by decide +kernel
theorem dX5_lowest_43 : decode cX5_lowest 43 = .ok (.lload_n 2, 1) := by decide +kernel
theorem dX5_lowest_44 : decode cX5_lowest 44 = .ok (.lload 5, 2) := by decide +kernel
theorem dX5_lowest_46 : decode cX5_lowest 46 = .ok (.ldiv, 1) := by decide +kernel
theorem dX5_lowest_47 : decode cX5_lowest 47 = .ok (.lreturn, 1) := by decide +kernel
theorem dX5_powerOf_0 : decode cX5_powerOf 0 = .ok (.lconst 1, 1) := by decide +kernel
theorem dX5_powerOf_1 : decode cX5_powerOf 1 = .ok (.lstore_n 2, 1) := by decide +kernel
theorem dX5_powerOf_2 : decode cX5_powerOf 2 = .ok (.iconst 0, 1) := by decide +kernel
theorem dX5_powerOf_3 : decode cX5_powerOf 3 = .ok (.istore 4, 2) := by decide +kernel
theorem dX5_powerOf_5 : decode cX5_powerOf 5 = .ok (.iload 4, 2) := by decide +kernel
theorem dX5_powerOf_7 : decode cX5_powerOf 7 = .ok (.iload_n 1, 1) := by decide +kernel
theorem dX5_powerOf_8 : decode cX5_powerOf 8 = .ok (.if_icmp .ge 14, 3) := by decide +kernel
theorem dX5_powerOf_11 : decode cX5_powerOf 11 = .ok (.lload_n 2, 1) := by decide +kernel
theorem dX5_powerOf_12 : decode cX5_powerOf 12 = .ok (.iload_n 0, 1) := by decide +kernel
theorem dX5_powerOf_13 : decode cX5_powerOf 13 = .ok (.i2l, 1) := by decide +kernel
theorem dX5_powerOf_14 : decode cX5_powerOf 14 = .ok (.lmul, 1) := by decide +kernel
theorem dX5_powerOf_15 : decode cX5_powerOf 15 = .ok (.lstore_n 2, 1) := by decide +kernel
theorem dX5_powerOf_16 : decode cX5_powerOf 16 = .ok (.iinc 4 1, 3) := by decide +kernel
theorem dX5_powerOf_19 : decode cX5_powerOf 19 = .ok (.goto (-14), 3) := by decide +kernel
theorem dX5_powerOf_22 : decode cX5_powerOf 22 = .ok (.lload_n 2, 1) := by decide +kernel
theorem dX5_powerOf_23 : decode cX5_powerOf 23 = .ok (.lreturn, 1) := by decide +kernel
set_option maxRecDepth 20000 in
theorem ggX5_odds_X5_in : GoodIn wsX5_odds wsX5_in := goodIn_r _ [6] (by decide +kernel) (by decide +kernel)
set_option maxRecDepth 20000 in
theorem gX5_odds_X5_in : GoodIn wsX5_odds (va_wsS RX5 60 yX5_in wsX5_in) := goodIn_app (goodIn_of _ (by decide +kernel)) ggX5_odds_X5_in
set_option maxRecDepth 20000 in
theorem ggX5_odds_X5_powerOf : GoodIn wsX5_odds wsX5_powerOf := goodIn_r _ [9] (by decide +kernel) (by decide +kernel)
set_option maxRecDepth 20000 in
theorem gX5_odds_X5_powerOf : GoodIn wsX5_odds (va_wsS RX5 303 yX5_powerOf wsX5_powerOf) := goodIn_app (goodIn_of _ (by decide +kernel)) ggX5_odds_X5_powerOf
set_option maxRecDepth 20000 in
theorem ggX5_odds_X5_lowest : GoodIn wsX5_odds wsX5_lowest := goodIn_r _ [12] (by decide +kernel) (by decide +kernel)
set_option maxRecDepth 20000 in
theorem gX5_odds_X5_lowest : GoodIn wsX5_odds (va_wsS RX5 307 yX5_lowest wsX5_lowest) := goodIn_app (goodIn_of _ (by decide +kernel)) ggX5_odds_X5_lowest
theorem dX5_odds_0 : decode cX5_odds 0 = .ok (.iload_n 1, 1) := by decide +kernel
theorem dX5_odds_1 : decode cX5_odds 1 = .ok (.iconst 0, 1) := by decide +kernel
theorem dX5_odds_2 : decode cX5_odds 2 = .ok (.bipush 8, 2) := by decide +kernel
theorem dX5_odds_4 : decode cX5_odds 4 = .ok (.invokestatic 60, 3) := by decide +kernel
theorem dX5_odds_7 : decode cX5_odds 7 = .ok (.ifCond .eq 21, 3) := by decide +kernel
theorem dX5_odds_10 : decode cX5_odds 10 = .ok (.iload_n 2, 1) := by decide +kernel
theorem dX5_odds_11 : decode cX5_odds 11 = .ok (.iconst 0, 1) := by decide +kernel
theorem dX5_odds_12 : decode cX5_odds 12 = .ok (.iload_n 1, 1) := by decide +kernel
theorem dX5_odds_13 : decode cX5_odds 13 = .ok (.invokestatic 60, 3) := by decide +kernel
theorem dX5_odds_16 : decode cX5_odds 16 = .ok (.ifCond .eq 12, 3) := by decide +kernel
theorem dX5_odds_19 : decode cX5_odds 19 = .ok (.iload_n 3, 1) := by decide +kernel
theorem dX5_odds_20 : decode cX5_odds 20 = .ok (.iconst 0, 1) := by decide +kernel
theorem dX5_odds_21 : decode cX5_odds 21 = .ok (.iconst 1, 1) := by decide +kernel
theorem dX5_odds_22 : decode cX5_odds 22 = .ok (.invokestatic 60, 3) := by decide +kernel
theorem dX5_odds_25 : decode cX5_odds 25 = .ok (.ifCond .ne 7, 3) := by decide +kernel
theorem dX5_odds_28 : decode cX5_odds 28 = .ok (.ldc2_w 100, 3) := by decide +kernel
theorem dX5_odds_31 : decode cX5_odds 31 = .ok (.lreturn, 1) := by decide +kernel
theorem dX5_odds_32 : decode cX5_odds 32 = .ok (.lconst 1, 1) := by decide +kernel
theorem dX5_odds_33 : decode cX5_odds 33 = .ok (.lstore 4, 2) := by decide +kernel
theorem dX5_odds_35 : decode cX5_odds 35 = .ok (.iconst 0, 1) := by decide +kernel
theorem dX5_odds_36 : decode cX5_odds 36 = .ok (.istore 6, 2) := by decide +kernel
theorem dX5_odds_38 : decode cX5_odds 38 = .ok (.iload 6, 2) := by decide +kernel
theorem dX5_odds_40 : decode cX5_odds 40 = .ok (.iload_n 2, 1) := by decide +kernel
theorem dX5_odds_41 : decode cX5_odds 41 = .ok (.if_icmp .ge 25, 3) := by decide +kernel
theorem dX5_odds_44 : decode cX5_odds 44 = .ok (.lload 4, 2) := by decide +kernel
theorem dX5_odds_46 : decode cX5_odds 46 = .ok (.iload_n 1, 1) := by decide +kernel
theorem dX5_odds_47 : decode cX5_odds 47 = .ok (.iload 6, 2) := by decide +kernel
theorem dX5_odds_49 : decode cX5_odds 49 = .ok (.isub, 1) := by decide +kernel
theorem dX5_odds_50 : decode cX5_odds 50 = .ok (.i2l, 1) := by decide +kernel
theorem dX5_odds_51 : decode cX5_odds 51 = .ok (.lmul, 1) := by decide +kernel
theorem dX5_odds_52 : decode cX5_odds 52 = .ok (.iload 6, 2) := by decide +kernel
theorem dX5_odds_54 : decode cX5_odds 54 = .ok (.iconst 1, 1) := by decide +kernel
theorem dX5_odds_55 : decode cX5_odds 55 = .ok (.iadd, 1) := by decide +kernel
theorem dX5_odds_56 : decode cX5_odds 56 = .ok (.i2l, 1) := by decide +kernel
theorem dX5_odds_57 : decode cX5_odds 57 = .ok (.ldiv, 1) := by decide +kernel
theorem dX5_odds_58 : decode cX5_odds 58 = .ok (.lstore 4, 2) := by decide +kernel
theorem dX5_odds_60 : decode cX5_odds 60 = .ok (.iinc 6 1, 3) := by decide +kernel
theorem dX5_odds_63 : decode cX5_odds 63 = .ok (.goto (-25), 3) := by decide +kernel
theorem dX5_odds_66 : decode cX5_odds 66 = .ok (.lload 4, 2) := by decide +kernel
theorem dX5_odds_68 : decode cX5_odds 68 = .ok (.aload_n 0, 1) := by decide +kernel
theorem dX5_odds_69 : decode cX5_odds 69 = .ok (.getfield 7, 3) := by decide +kernel
theorem dX5_odds_72 : decode cX5_odds 72 = .ok (.iconst 3, 1) := by decide +kernel
theorem dX5_odds_73 : decode cX5_odds 73 = .ok (.iaload, 1) := by decide +kernel
theorem dX5_odds_74 : decode cX5_odds 74 = .ok (.iload_n 2, 1) := by decide +kernel
theorem dX5_odds_75 : decode cX5_odds 75 = .ok (.invokestatic 303, 3) := by decide +kernel
theorem dX5_odds_78 : decode cX5_odds 78 = .ok (.lmul, 1) := by decide +kernel
theorem dX5_odds_79 : decode cX5_odds 79 = .ok (.bipush 100, 2) := by decide +kernel
theorem dX5_odds_81 : decode cX5_odds 81 = .ok (.aload_n 0, 1) := by decide +kernel
theorem dX5_odds_82 : decode cX5_odds 82 = .ok (.getfield 7, 3) := by decide +kernel
theorem dX5_odds_85 : decode cX5_odds 85 = .ok (.iconst 3, 1) := by decide +kernel
theorem dX5_odds_86 : decode cX5_odds 86 = .ok (.iaload, 1) := by decide +kernel
theorem dX5_odds_87 : decode cX5_odds 87 = .ok (.isub, 1) := by decide +kernel
theorem dX5_odds_88 : decode cX5_odds 88 = .ok (.iload_n 1, 1) := by decide +kernel
theorem dX5_odds_89 : decode cX5_odds 89 = .ok (.iload_n 2, 1) := by decide +kernel
theorem dX5_odds_90 : decode cX5_odds 90 = .ok (.isub, 1) := by decide +kernel
theorem dX5_odds_91 : decode cX5_odds 91 = .ok (.invokestatic 303, 3) := by decide +kernel
theorem dX5_odds_94 : decode cX5_odds 94 = .ok (.lmul, 1) := by decide +kernel
theorem dX5_odds_95 : decode cX5_odds 95 = .ok (.bipush 100, 2) := by decide +kernel
theorem dX5_odds_97 : decode cX5_odds 97 = .ok (.iload_n 1, 1) := by decide +kernel
theorem dX5_odds_98 : decode cX5_odds 98 = .ok (.invokestatic 303, 3) := by decide +kernel
theorem dX5_odds_101 : decode cX5_odds 101 = .ok (.iload_n 3, 1) := by decide +kernel
theorem dX5_odds_102 : decode cX5_odds 102 = .ok (.invokestatic 307, 3) := by decide +kernel
theorem dX5_odds_105 : decode cX5_odds 105 = .ok (.lreturn, 1) := by decide +kernel
set_option maxRecDepth 20000 in
theorem ggX5_hope_X5_in : GoodIn wsX5_hope wsX5_in := goodIn_r _ [7] (by decide +kernel) (by decide +kernel)
set_option maxRecDepth 20000 in
theorem gX5_hope_X5_in : GoodIn wsX5_hope (va_wsS RX5 60 yX5_in wsX5_in) := goodIn_app (goodIn_of _ (by decide +kernel)) ggX5_hope_X5_in
set_option maxRecDepth 20000 in
theorem ggX5_hope_X5_lowest : GoodIn wsX5_hope wsX5_lowest := goodIn_r _ [10] (by decide +kernel) (by decide +kernel)
set_option maxRecDepth 20000 in
theorem gX5_hope_X5_lowest : GoodIn wsX5_hope (va_wsS RX5 307 yX5_lowest wsX5_lowest) := goodIn_app (goodIn_of _ (by decide +kernel)) ggX5_hope_X5_lowest
theorem dX5_hope_0 : decode cX5_hope 0 = .ok (.iload_n 1, 1) := by decide +kernel
theorem dX5_hope_1 : decode cX5_hope 1 = .ok (.iconst 0, 1) := by decide +kernel
theorem dX5_hope_2 : decode cX5_hope 2 = .ok (.bipush 99, 2) := by decide +kernel
theorem dX5_hope_4 : decode cX5_hope 4 = .ok (.invokestatic 60, 3) := by decide +kernel
theorem dX5_hope_7 : decode cX5_hope 7 = .ok (.ifCond .eq 32, 3) := by decide +kernel
theorem dX5_hope_10 : decode cX5_hope 10 = .ok (.iload_n 2, 1) := by decide +kernel
theorem dX5_hope_11 : decode cX5_hope 11 = .ok (.iconst 0, 1) := by decide +kernel
theorem dX5_hope_12 : decode cX5_hope 12 = .ok (.iconst 1, 1) := by decide +kernel
theorem dX5_hope_13 : decode cX5_hope 13 = .ok (.invokestatic 60, 3) := by decide +kernel
theorem dX5_hope_16 : decode cX5_hope 16 = .ok (.ifCond .eq 23, 3) := by decide +kernel
theorem dX5_hope_19 : decode cX5_hope 19 = .ok (.iload_n 1, 1) := by decide +kernel
theorem dX5_hope_20 : decode cX5_hope 20 = .ok (.i2l, 1) := by decide +kernel
theorem dX5_hope_21 : decode cX5_hope 21 = .ok (.aload_n 0, 1) := by decide +kernel
theorem dX5_hope_22 : decode cX5_hope 22 = .ok (.getfield 7, 3) := by decide +kernel
theorem dX5_hope_25 : decode cX5_hope 25 = .ok (.iconst 3, 1) := by decide +kernel
theorem dX5_hope_26 : decode cX5_hope 26 = .ok (.iaload, 1) := by decide +kernel
theorem dX5_hope_27 : decode cX5_hope 27 = .ok (.i2l, 1) := by decide +kernel
theorem dX5_hope_28 : decode cX5_hope 28 = .ok (.lmul, 1) := by decide +kernel
theorem dX5_hope_29 : decode cX5_hope 29 = .ok (.ldc2_w 311, 3) := by decide +kernel
theorem dX5_hope_32 : decode cX5_hope 32 = .ok (.iload_n 2, 1) := by decide +kernel
theorem dX5_hope_33 : decode cX5_hope 33 = .ok (.invokestatic 307, 3) := by decide +kernel
theorem dX5_hope_36 : decode cX5_hope 36 = .ok (.goto 6, 3) := by decide +kernel
theorem dX5_hope_39 : decode cX5_hope 39 = .ok (.ldc2_w 100, 3) := by decide +kernel
theorem dX5_hope_42 : decode cX5_hope 42 = .ok (.lreturn, 1) := by decide +kernel
set_option maxRecDepth 20000 in
theorem ggX5_findRows_X5_moveAll : GoodIn wsX5_findRows wsX5_moveAll := goodIn_r _ [7] (by decide +kernel) (by decide +kernel)
set_option maxRecDepth 20000 in
theorem gX5_findRows_X5_moveAll : GoodIn wsX5_findRows (va_wsS RX5 186 yX5_moveAll wsX5_moveAll) := goodIn_app (goodIn_of _ (by decide +kernel)) ggX5_findRows_X5_moveAll
set_option maxRecDepth 20000 in
theorem ggX5_findRows_X5_nightGoes : GoodIn wsX5_findRows wsX5_nightGoes := goodIn_r _ [11, 1, 12, 13, 14, 15, 16, 17, 6, 18, 19, 20, 21, 22, 23, 24, 25, 26, 27, 28, 29, 30, 31, 32, 33, 34, 35, 36, 37, 38, 39, 40, 41, 42, 43, 44, 45, 46, 47, 48, 49, 50, 51, 52, 53, 54, 55, 56, 57, 58, 59, 60, 61, 62, 63, 64, 65, 66, 67, 68, 69, 70, 71, 72, 73, 74, 75, 76, 77, 78, 79, 80, 81, 82, 83, 84, 85, 86, 87, 88, 89, 90, 91, 92, 93, 94, 95, 96, 97, 98, 99, 100, 101, 102, 103, 104, 105, 106] (by decide +kernel) (by decide +kernel)
set_option maxRecDepth 20000 in
theorem gX5_findRows_X5_nightGoes : GoodIn wsX5_findRows (wsV RX5 259 RX5 yX5_nightGoes wsX5_nightGoes) := goodIn_app (goodIn_of _ (by decide +kernel)) ggX5_findRows_X5_nightGoes
set_option maxRecDepth 20000 in
theorem ggX5_findRows_X5_its : GoodIn wsX5_findRows wsX5_its := goodIn_r _ [22, 1, 77, 78, 79, 80, 81, 82, 83, 84, 85, 86, 87, 88, 89, 90, 91, 92, 93, 94, 95, 96, 97, 98, 99, 100, 101, 102, 103, 104, 105, 106] (by decide +kernel) (by decide +kernel)
set_option maxRecDepth 20000 in
theorem gX5_findRows_X5_its : GoodIn wsX5_findRows (wsV RX5 210 RX5 yX5_its wsX5_its) := goodIn_app (goodIn_of _ (by decide +kernel)) ggX5_findRows_X5_its
set_option maxRecDepth 20000 in
theorem ggX5_findRows_X5_looksOfAll : GoodIn wsX5_findRows wsX5_looksOfAll := goodIn_r _ [76, 61, 62, 63, 6, 64, 1, 19, 20, 21, 22, 77, 78, 79, 80, 81, 82, 83, 84, 85, 86, 87, 88, 89, 90, 91, 92, 93, 94, 95, 96, 97, 98, 99, 100, 101, 102, 103, 104, 105, 106] (by decide +kernel) (by decide +kernel)
set_option maxRecDepth 20000 in
theorem gX5_findRows_X5_looksOfAll : GoodIn wsX5_findRows (wsV RX5 252 RX5 yX5_looksOfAll wsX5_looksOfAll) := goodIn_app (goodIn_of _ (by decide +kernel)) ggX5_findRows_X5_looksOfAll
theorem dX5_findRows_0 : decode cX5_findRows 0 = .ok (.aload_n 0, 1) := by decide +kernel
theorem dX5_findRows_1 : decode cX5_findRows 1 = .ok (.getfield 7, 3) := by decide +kernel
theorem dX5_findRows_4 : decode cX5_findRows 4 = .ok (.aload_n 0, 1) := by decide +kernel
theorem dX5_findRows_5 : decode cX5_findRows 5 = .ok (.getfield 19, 3) := by decide +kernel
theorem dX5_findRows_8 : decode cX5_findRows 8 = .ok (.invokestatic 186, 3) := by decide +kernel
theorem dX5_findRows_11 : decode cX5_findRows 11 = .ok (.iconst 0, 1) := by decide +kernel
theorem dX5_findRows_12 : decode cX5_findRows 12 = .ok (.istore_n 3, 1) := by decide +kernel
theorem dX5_findRows_13 : decode cX5_findRows 13 = .ok (.iload_n 3, 1) := by decide +kernel
theorem dX5_findRows_14 : decode cX5_findRows 14 = .ok (.iload_n 2, 1) := by decide +kernel
theorem dX5_findRows_15 : decode cX5_findRows 15 = .ok (.if_icmp .ge 57, 3) := by decide +kernel
theorem dX5_findRows_18 : decode cX5_findRows 18 = .ok (.aload_n 0, 1) := by decide +kernel
theorem dX5_findRows_19 : decode cX5_findRows 19 = .ok (.invokevirtual 259, 3) := by decide +kernel
theorem dX5_findRows_22 : decode cX5_findRows 22 = .ok (.aload_n 0, 1) := by decide +kernel
theorem dX5_findRows_23 : decode cX5_findRows 23 = .ok (.getfield 31, 3) := by decide +kernel
theorem dX5_findRows_26 : decode cX5_findRows 26 = .ok (.iconst 3, 1) := by decide +kernel
theorem dX5_findRows_27 : decode cX5_findRows 27 = .ok (.iload_n 3, 1) := by decide +kernel
theorem dX5_findRows_28 : decode cX5_findRows 28 = .ok (.imul, 1) := by decide +kernel
theorem dX5_findRows_29 : decode cX5_findRows 29 = .ok (.aload_n 0, 1) := by decide +kernel
theorem dX5_findRows_30 : decode cX5_findRows 30 = .ok (.iload_n 1, 1) := by decide +kernel
theorem dX5_findRows_31 : decode cX5_findRows 31 = .ok (.iconst 3, 1) := by decide +kernel
theorem dX5_findRows_32 : decode cX5_findRows 32 = .ok (.invokevirtual 210, 3) := by decide +kernel
theorem dX5_findRows_35 : decode cX5_findRows 35 = .ok (.iastore, 1) := by decide +kernel
theorem dX5_findRows_36 : decode cX5_findRows 36 = .ok (.aload_n 0, 1) := by decide +kernel
theorem dX5_findRows_37 : decode cX5_findRows 37 = .ok (.getfield 31, 3) := by decide +kernel
theorem dX5_findRows_40 : decode cX5_findRows 40 = .ok (.iconst 3, 1) := by decide +kernel
theorem dX5_findRows_41 : decode cX5_findRows 41 = .ok (.iload_n 3, 1) := by decide +kernel
theorem dX5_findRows_42 : decode cX5_findRows 42 = .ok (.imul, 1) := by decide +kernel
theorem dX5_findRows_43 : decode cX5_findRows 43 = .ok (.iconst 1, 1) := by decide +kernel
theorem dX5_findRows_44 : decode cX5_findRows 44 = .ok (.iadd, 1) := by decide +kernel
theorem dX5_findRows_45 : decode cX5_findRows 45 = .ok (.aload_n 0, 1) := by decide +kernel
theorem dX5_findRows_46 : decode cX5_findRows 46 = .ok (.iload_n 1, 1) := by decide +kernel
theorem dX5_findRows_47 : decode cX5_findRows 47 = .ok (.iconst 2, 1) := by decide +kernel
theorem dX5_findRows_48 : decode cX5_findRows 48 = .ok (.invokevirtual 210, 3) := by decide +kernel
theorem dX5_findRows_51 : decode cX5_findRows 51 = .ok (.iastore, 1) := by decide +kernel
theorem dX5_findRows_52 : decode cX5_findRows 52 = .ok (.aload_n 0, 1) := by decide +kernel
theorem dX5_findRows_53 : decode cX5_findRows 53 = .ok (.getfield 31, 3) := by decide +kernel
theorem dX5_findRows_56 : decode cX5_findRows 56 = .ok (.iconst 3, 1) := by decide +kernel
theorem dX5_findRows_57 : decode cX5_findRows 57 = .ok (.iload_n 3, 1) := by decide +kernel
theorem dX5_findRows_58 : decode cX5_findRows 58 = .ok (.imul, 1) := by decide +kernel
theorem dX5_findRows_59 : decode cX5_findRows 59 = .ok (.iconst 2, 1) := by decide +kernel
theorem dX5_findRows_60 : decode cX5_findRows 60 = .ok (.iadd, 1) := by decide +kernel
theorem dX5_findRows_61 : decode cX5_findRows 61 = .ok (.aload_n 0, 1) := by decide +kernel
theorem dX5_findRows_62 : decode cX5_findRows 62 = .ok (.invokevirtual 252, 3) := by decide +kernel
theorem dX5_findRows_65 : decode cX5_findRows 65 = .ok (.iastore, 1) := by decide +kernel
theorem dX5_findRows_66 : decode cX5_findRows 66 = .ok (.iinc 3 1, 3) := by decide +kernel
theorem dX5_findRows_69 : decode cX5_findRows 69 = .ok (.goto (-56), 3) := by decide +kernel
theorem dX5_findRows_72 : decode cX5_findRows 72 = .ok (.aload_n 0, 1) := by decide +kernel
theorem dX5_findRows_73 : decode cX5_findRows 73 = .ok (.getfield 19, 3) := by decide +kernel
theorem dX5_findRows_76 : decode cX5_findRows 76 = .ok (.aload_n 0, 1) := by decide +kernel
theorem dX5_findRows_77 : decode cX5_findRows 77 = .ok (.getfield 7, 3) := by decide +kernel
theorem dX5_findRows_80 : decode cX5_findRows 80 = .ok (.invokestatic 186, 3) := by decide +kernel
theorem dX5_findRows_83 : decode cX5_findRows 83 = .ok (.return_, 1) := by decide +kernel
set_option maxRecDepth 20000 in
theorem ggX5_prove_X5_isOne : GoodIn wsX5_prove wsX5_isOne := goodIn_r _ [8, 9, 10, 11, 7, 12, 90, 91, 92, 93, 94, 95, 96, 97, 98, 99, 100, 101, 102, 103, 104, 105, 106, 107, 108, 109, 110, 111, 112, 113, 114, 115, 116, 117, 118, 119] (by decide +kernel) (by decide +kernel)
set_option maxRecDepth 20000 in
theorem gX5_prove_X5_isOne : GoodIn wsX5_prove (wsV RX5 207 RX5 yX5_isOne wsX5_isOne) := goodIn_app (goodIn_of _ (by decide +kernel)) ggX5_prove_X5_isOne
set_option maxRecDepth 20000 in
theorem ggX5_prove_X5_in : GoodIn wsX5_prove wsX5_in := goodIn_r _ [12] (by decide +kernel) (by decide +kernel)
set_option maxRecDepth 20000 in
theorem gX5_prove_X5_in : GoodIn wsX5_prove (va_wsS RX5 60 yX5_in wsX5_in) := goodIn_app (goodIn_of _ (by decide +kernel)) ggX5_prove_X5_in
set_option maxRecDepth 20000 in
theorem ggX5_prove_X5_findRows : GoodIn wsX5_prove wsX5_findRows := goodIn_r _ [16, 9, 17, 3, 18, 19, 7, 20, 21, 22, 23, 24, 25, 26, 27, 28, 29, 30, 31, 32, 33, 34, 35, 36, 37, 38, 39, 40, 41, 42, 43, 44, 45, 46, 47, 48, 49, 50, 51, 52, 53, 54, 55, 56, 57, 58, 59, 60, 61, 62, 63, 64, 65, 66, 67, 68, 69, 70, 71, 72, 73, 74, 75, 76, 77, 78, 79, 80, 81, 82, 83, 84, 85, 86, 87, 88, 89, 90, 91, 92, 93, 94, 95, 96, 97, 98, 99, 100, 101, 102, 103, 104, 105, 106, 107, 108, 109, 110, 111, 112, 113, 114, 115, 116, 117, 118, 119] (by decide +kernel) (by decide +kernel)
set_option maxRecDepth 20000 in
theorem gX5_prove_X5_findRows : GoodIn wsX5_prove (wsV RX5 313 RX5 yX5_findRows wsX5_findRows) := goodIn_app (goodIn_of _ (by decide +kernel)) ggX5_prove_X5_findRows
theorem dX5_prove_0 : decode cX5_prove 0 = .ok (.aload_n 0, 1) := by decide +kernel
theorem dX5_prove_1 : decode cX5_prove 1 = .ok (.iload_n 1, 1) := by decide +kernel
theorem dX5_prove_2 : decode cX5_prove 2 = .ok (.invokevirtual 207, 3) := by decide +kernel
theorem dX5_prove_5 : decode cX5_prove 5 = .ok (.ifCond .eq 13, 3) := by decide +kernel
theorem dX5_prove_8 : decode cX5_prove 8 = .ok (.iload_n 2, 1) := by decide +kernel
theorem dX5_prove_9 : decode cX5_prove 9 = .ok (.iconst 1, 1) := by decide +kernel
theorem dX5_prove_10 : decode cX5_prove 10 = .ok (.bipush 10, 2) := by decide +kernel
theorem dX5_prove_12 : decode cX5_prove 12 = .ok (.invokestatic 60, 3) := by decide +kernel
theorem dX5_prove_15 : decode cX5_prove 15 = .ok (.ifCond .ne 5, 3) := by decide +kernel
theorem dX5_prove_18 : decode cX5_prove 18 = .ok (.iconst (-1), 1) := by decide +kernel
theorem dX5_prove_19 : decode cX5_prove 19 = .ok (.ireturn, 1) := by decide +kernel
theorem dX5_prove_20 : decode cX5_prove 20 = .ok (.aload_n 0, 1) := by decide +kernel
theorem dX5_prove_21 : decode cX5_prove 21 = .ok (.iload_n 1, 1) := by decide +kernel
theorem dX5_prove_22 : decode cX5_prove 22 = .ok (.iload_n 2, 1) := by decide +kernel
theorem dX5_prove_23 : decode cX5_prove 23 = .ok (.invokevirtual 313, 3) := by decide +kernel
theorem dX5_prove_26 : decode cX5_prove 26 = .ok (.aload_n 0, 1) := by decide +kernel
theorem dX5_prove_27 : decode cX5_prove 27 = .ok (.iload_n 2, 1) := by decide +kernel
theorem dX5_prove_28 : decode cX5_prove 28 = .ok (.putfield 190, 3) := by decide +kernel
theorem dX5_prove_31 : decode cX5_prove 31 = .ok (.iconst 0, 1) := by decide +kernel
theorem dX5_prove_32 : decode cX5_prove 32 = .ok (.istore_n 3, 1) := by decide +kernel
theorem dX5_prove_33 : decode cX5_prove 33 = .ok (.iload_n 3, 1) := by decide +kernel
theorem dX5_prove_34 : decode cX5_prove 34 = .ok (.iconst 3, 1) := by decide +kernel
theorem dX5_prove_35 : decode cX5_prove 35 = .ok (.iload_n 2, 1) := by decide +kernel
theorem dX5_prove_36 : decode cX5_prove 36 = .ok (.imul, 1) := by decide +kernel
theorem dX5_prove_37 : decode cX5_prove 37 = .ok (.if_icmp .ge 21, 3) := by decide +kernel
theorem dX5_prove_40 : decode cX5_prove 40 = .ok (.aload_n 0, 1) := by decide +kernel
theorem dX5_prove_41 : decode cX5_prove 41 = .ok (.getfield 28, 3) := by decide +kernel
theorem dX5_prove_44 : decode cX5_prove 44 = .ok (.iload_n 3, 1) := by decide +kernel
theorem dX5_prove_45 : decode cX5_prove 45 = .ok (.aload_n 0, 1) := by decide +kernel
theorem dX5_prove_46 : decode cX5_prove 46 = .ok (.getfield 31, 3) := by decide +kernel
theorem dX5_prove_49 : decode cX5_prove 49 = .ok (.iload_n 3, 1) := by decide +kernel
theorem dX5_prove_50 : decode cX5_prove 50 = .ok (.iaload, 1) := by decide +kernel
theorem dX5_prove_51 : decode cX5_prove 51 = .ok (.iastore, 1) := by decide +kernel
theorem dX5_prove_52 : decode cX5_prove 52 = .ok (.iinc 3 1, 3) := by decide +kernel
theorem dX5_prove_55 : decode cX5_prove 55 = .ok (.goto (-22), 3) := by decide +kernel
theorem dX5_prove_58 : decode cX5_prove 58 = .ok (.iload_n 2, 1) := by decide +kernel
theorem dX5_prove_59 : decode cX5_prove 59 = .ok (.ireturn, 1) := by decide +kernel
set_option maxRecDepth 20000 in
theorem ggX5_isRow_X5_in : GoodIn wsX5_isRow wsX5_in := goodIn_r _ [5] (by decide +kernel) (by decide +kernel)
set_option maxRecDepth 20000 in
theorem gX5_isRow_X5_in : GoodIn wsX5_isRow (va_wsS RX5 60 yX5_in wsX5_in) := goodIn_app (goodIn_of _ (by decide +kernel)) ggX5_isRow_X5_in
theorem dX5_isRow_0 : decode cX5_isRow 0 = .ok (.iload_n 1, 1) := by decide +kernel
theorem dX5_isRow_1 : decode cX5_isRow 1 = .ok (.iconst 0, 1) := by decide +kernel
theorem dX5_isRow_2 : decode cX5_isRow 2 = .ok (.aload_n 0, 1) := by decide +kernel
theorem dX5_isRow_3 : decode cX5_isRow 3 = .ok (.getfield 190, 3) := by decide +kernel
theorem dX5_isRow_6 : decode cX5_isRow 6 = .ok (.iconst 1, 1) := by decide +kernel
theorem dX5_isRow_7 : decode cX5_isRow 7 = .ok (.isub, 1) := by decide +kernel
theorem dX5_isRow_8 : decode cX5_isRow 8 = .ok (.invokestatic 60, 3) := by decide +kernel
theorem dX5_isRow_11 : decode cX5_isRow 11 = .ok (.ifCond .eq 16, 3) := by decide +kernel
theorem dX5_isRow_14 : decode cX5_isRow 14 = .ok (.iload_n 2, 1) := by decide +kernel
theorem dX5_isRow_15 : decode cX5_isRow 15 = .ok (.iconst 0, 1) := by decide +kernel
theorem dX5_isRow_16 : decode cX5_isRow 16 = .ok (.iconst 2, 1) := by decide +kernel
theorem dX5_isRow_17 : decode cX5_isRow 17 = .ok (.invokestatic 60, 3) := by decide +kernel
theorem dX5_isRow_20 : decode cX5_isRow 20 = .ok (.ifCond .eq 7, 3) := by decide +kernel
theorem dX5_isRow_23 : decode cX5_isRow 23 = .ok (.iconst 1, 1) := by decide +kernel
theorem dX5_isRow_24 : decode cX5_isRow 24 = .ok (.goto 4, 3) := by decide +kernel
theorem dX5_isRow_27 : decode cX5_isRow 27 = .ok (.iconst 0, 1) := by decide +kernel
theorem dX5_isRow_28 : decode cX5_isRow 28 = .ok (.ireturn, 1) := by decide +kernel
set_option maxRecDepth 20000 in
theorem ggX5_row_X5_isRow : GoodIn wsX5_row wsX5_isRow := goodIn_r _ [6, 7, 8, 9, 5, 10, 11, 12, 13, 14, 15, 16, 17, 18, 19, 20, 21, 22, 23, 24, 25, 26, 27, 28, 29, 30, 31, 32, 33, 34, 35, 36, 37, 38, 39, 40] (by decide +kernel) (by decide +kernel)
set_option maxRecDepth 20000 in
theorem gX5_row_X5_isRow : GoodIn wsX5_row (wsV RX5 317 RX5 yX5_isRow wsX5_isRow) := goodIn_app (goodIn_of _ (by decide +kernel)) ggX5_row_X5_isRow
theorem dX5_row_0 : decode cX5_row 0 = .ok (.aload_n 0, 1) := by decide +kernel
theorem dX5_row_1 : decode cX5_row 1 = .ok (.iload_n 1, 1) := by decide +kernel
theorem dX5_row_2 : decode cX5_row 2 = .ok (.iload_n 2, 1) := by decide +kernel
theorem dX5_row_3 : decode cX5_row 3 = .ok (.invokevirtual 317, 3) := by decide +kernel
theorem dX5_row_6 : decode cX5_row 6 = .ok (.ifCond .eq 16, 3) := by decide +kernel
theorem dX5_row_9 : decode cX5_row 9 = .ok (.aload_n 0, 1) := by decide +kernel
theorem dX5_row_10 : decode cX5_row 10 = .ok (.getfield 28, 3) := by decide +kernel
theorem dX5_row_13 : decode cX5_row 13 = .ok (.iconst 3, 1) := by decide +kernel
theorem dX5_row_14 : decode cX5_row 14 = .ok (.iload_n 1, 1) := by decide +kernel
theorem dX5_row_15 : decode cX5_row 15 = .ok (.imul, 1) := by decide +kernel
theorem dX5_row_16 : decode cX5_row 16 = .ok (.iload_n 2, 1) := by decide +kernel
theorem dX5_row_17 : decode cX5_row 17 = .ok (.iadd, 1) := by decide +kernel
theorem dX5_row_18 : decode cX5_row 18 = .ok (.iaload, 1) := by decide +kernel
theorem dX5_row_19 : decode cX5_row 19 = .ok (.goto 5, 3) := by decide +kernel
theorem dX5_row_22 : decode cX5_row 22 = .ok (.bipush (-9), 2) := by decide +kernel
theorem dX5_row_24 : decode cX5_row 24 = .ok (.ireturn, 1) := by decide +kernel
set_option maxRecDepth 20000 in
theorem ggX5_alterRow_X5_isRow : GoodIn wsX5_alterRow wsX5_isRow := goodIn_r _ [6, 7, 8, 9, 5, 10, 11, 12, 13, 14, 15, 16, 17, 18, 19, 20, 21, 22, 23, 24, 25, 26, 27, 28, 29, 30, 31, 32, 33, 34, 35, 36, 37, 38, 39, 40] (by decide +kernel) (by decide +kernel)
set_option maxRecDepth 20000 in
theorem gX5_alterRow_X5_isRow : GoodIn wsX5_alterRow (wsV RX5 317 RX5 yX5_isRow wsX5_isRow) := goodIn_app (goodIn_of _ (by decide +kernel)) ggX5_alterRow_X5_isRow
theorem dX5_alterRow_0 : decode cX5_alterRow 0 = .ok (.aload_n 0, 1) := by decide +kernel
theorem dX5_alterRow_1 : decode cX5_alterRow 1 = .ok (.iload_n 1, 1) := by decide +kernel
theorem dX5_alterRow_2 : decode cX5_alterRow 2 = .ok (.iload_n 2, 1) := by decide +kernel
theorem dX5_alterRow_3 : decode cX5_alterRow 3 = .ok (.invokevirtual 317, 3) := by decide +kernel
theorem dX5_alterRow_6 : decode cX5_alterRow 6 = .ok (.ifCond .ne 6, 3) := by decide +kernel
theorem dX5_alterRow_9 : decode cX5_alterRow 9 = .ok (.bipush (-9), 2) := by decide +kernel
theorem dX5_alterRow_11 : decode cX5_alterRow 11 = .ok (.ireturn, 1) := by decide +kernel
theorem dX5_alterRow_12 : decode cX5_alterRow 12 = .ok (.aload_n 0, 1) := by decide +kernel
theorem dX5_alterRow_13 : decode cX5_alterRow 13 = .ok (.getfield 28, 3) := by decide +kernel
theorem dX5_alterRow_16 : decode cX5_alterRow 16 = .ok (.iconst 3, 1) := by decide +kernel
theorem dX5_alterRow_17 : decode cX5_alterRow 17 = .ok (.iload_n 1, 1) := by decide +kernel
theorem dX5_alterRow_18 : decode cX5_alterRow 18 = .ok (.imul, 1) := by decide +kernel
theorem dX5_alterRow_19 : decode cX5_alterRow 19 = .ok (.iload_n 2, 1) := by decide +kernel
theorem dX5_alterRow_20 : decode cX5_alterRow 20 = .ok (.iadd, 1) := by decide +kernel
theorem dX5_alterRow_21 : decode cX5_alterRow 21 = .ok (.iaload, 1) := by decide +kernel
theorem dX5_alterRow_22 : decode cX5_alterRow 22 = .ok (.istore 4, 2) := by decide +kernel
theorem dX5_alterRow_24 : decode cX5_alterRow 24 = .ok (.aload_n 0, 1) := by decide +kernel
theorem dX5_alterRow_25 : decode cX5_alterRow 25 = .ok (.getfield 28, 3) := by decide +kernel
theorem dX5_alterRow_28 : decode cX5_alterRow 28 = .ok (.iconst 3, 1) := by decide +kernel
theorem dX5_alterRow_29 : decode cX5_alterRow 29 = .ok (.iload_n 1, 1) := by decide +kernel
theorem dX5_alterRow_30 : decode cX5_alterRow 30 = .ok (.imul, 1) := by decide +kernel
theorem dX5_alterRow_31 : decode cX5_alterRow 31 = .ok (.iload_n 2, 1) := by decide +kernel
theorem dX5_alterRow_32 : decode cX5_alterRow 32 = .ok (.iadd, 1) := by decide +kernel
theorem dX5_alterRow_33 : decode cX5_alterRow 33 = .ok (.iload_n 3, 1) := by decide +kernel
theorem dX5_alterRow_34 : decode cX5_alterRow 34 = .ok (.iastore, 1) := by decide +kernel
theorem dX5_alterRow_35 : decode cX5_alterRow 35 = .ok (.iload 4, 2) := by decide +kernel
theorem dX5_alterRow_37 : decode cX5_alterRow 37 = .ok (.ireturn, 1) := by decide +kernel
set_option maxRecDepth 20000 in
theorem ggX5_judge_X5_isOne : GoodIn wsX5_judge wsX5_isOne := goodIn_r _ [8, 9, 10, 11, 7, 12, 90, 91, 92, 93, 94, 95, 96, 97, 98, 99, 100, 101, 102, 103, 104, 105, 106, 107, 108, 109, 110, 111, 112, 113, 114, 115, 116, 117, 118, 119] (by decide +kernel) (by decide +kernel)
set_option maxRecDepth 20000 in
theorem gX5_judge_X5_isOne : GoodIn wsX5_judge (wsV RX5 207 RX5 yX5_isOne wsX5_isOne) := goodIn_app (goodIn_of _ (by decide +kernel)) ggX5_judge_X5_isOne
set_option maxRecDepth 20000 in
theorem ggX5_judge_X5_findRows : GoodIn wsX5_judge wsX5_findRows := goodIn_r _ [16, 9, 17, 3, 18, 19, 7, 20, 21, 22, 23, 24, 25, 26, 27, 28, 29, 30, 31, 32, 33, 34, 35, 36, 37, 38, 39, 40, 41, 42, 43, 44, 45, 46, 47, 48, 49, 50, 51, 52, 53, 54, 55, 56, 57, 58, 59, 60, 61, 62, 63, 64, 65, 66, 67, 68, 69, 70, 71, 72, 73, 74, 75, 76, 77, 78, 79, 80, 81, 82, 83, 84, 85, 86, 87, 88, 89, 90, 91, 92, 93, 94, 95, 96, 97, 98, 99, 100, 101, 102, 103, 104, 105, 106, 107, 108, 109, 110, 111, 112, 113, 114, 115, 116, 117, 118, 119] (by decide +kernel) (by decide +kernel)
set_option maxRecDepth 20000 in
theorem gX5_judge_X5_findRows : GoodIn wsX5_judge (wsV RX5 313 RX5 yX5_findRows wsX5_findRows) := goodIn_app (goodIn_of _ (by decide +kernel)) ggX5_judge_X5_findRows
theorem dX5_judge_0 : decode cX5_judge 0 = .ok (.aload_n 0, 1) := by decide +kernel
theorem dX5_judge_1 : decode cX5_judge 1 = .ok (.iload_n 1, 1) := by decide +kernel
theorem dX5_judge_2 : decode cX5_judge 2 = .ok (.invokevirtual 207, 3) := by decide +kernel
theorem dX5_judge_5 : decode cX5_judge 5 = .ok (.ifCond .ne 5, 3) := by decide +kernel
theorem dX5_judge_8 : decode cX5_judge 8 = .ok (.iconst (-1), 1) := by decide +kernel
theorem dX5_judge_9 : decode cX5_judge 9 = .ok (.ireturn, 1) := by decide +kernel
theorem dX5_judge_10 : decode cX5_judge 10 = .ok (.aload_n 0, 1) := by decide +kernel
theorem dX5_judge_11 : decode cX5_judge 11 = .ok (.iload_n 1, 1) := by decide +kernel
theorem dX5_judge_12 : decode cX5_judge 12 = .ok (.aload_n 0, 1) := by decide +kernel
theorem dX5_judge_13 : decode cX5_judge 13 = .ok (.getfield 190, 3) := by decide +kernel
theorem dX5_judge_16 : decode cX5_judge 16 = .ok (.invokevirtual 313, 3) := by decide +kernel
theorem dX5_judge_19 : decode cX5_judge 19 = .ok (.iconst 0, 1) := by decide +kernel
theorem dX5_judge_20 : decode cX5_judge 20 = .ok (.istore_n 2, 1) := by decide +kernel
theorem dX5_judge_21 : decode cX5_judge 21 = .ok (.iload_n 2, 1) := by decide +kernel
theorem dX5_judge_22 : decode cX5_judge 22 = .ok (.iconst 3, 1) := by decide +kernel
theorem dX5_judge_23 : decode cX5_judge 23 = .ok (.aload_n 0, 1) := by decide +kernel
theorem dX5_judge_24 : decode cX5_judge 24 = .ok (.getfield 190, 3) := by decide +kernel
theorem dX5_judge_27 : decode cX5_judge 27 = .ok (.imul, 1) := by decide +kernel
theorem dX5_judge_28 : decode cX5_judge 28 = .ok (.if_icmp .ge 30, 3) := by decide +kernel
theorem dX5_judge_31 : decode cX5_judge 31 = .ok (.aload_n 0, 1) := by decide +kernel
theorem dX5_judge_32 : decode cX5_judge 32 = .ok (.getfield 28, 3) := by decide +kernel
theorem dX5_judge_35 : decode cX5_judge 35 = .ok (.iload_n 2, 1) := by decide +kernel
theorem dX5_judge_36 : decode cX5_judge 36 = .ok (.iaload, 1) := by decide +kernel
theorem dX5_judge_37 : decode cX5_judge 37 = .ok (.aload_n 0, 1) := by decide +kernel
theorem dX5_judge_38 : decode cX5_judge 38 = .ok (.getfield 31, 3) := by decide +kernel
theorem dX5_judge_41 : decode cX5_judge 41 = .ok (.iload_n 2, 1) := by decide +kernel
theorem dX5_judge_42 : decode cX5_judge 42 = .ok (.iaload, 1) := by decide +kernel
theorem dX5_judge_43 : decode cX5_judge 43 = .ok (.if_icmp .eq 9, 3) := by decide +kernel
theorem dX5_judge_46 : decode cX5_judge 46 = .ok (.iload_n 2, 1) := by decide +kernel
theorem dX5_judge_47 : decode cX5_judge 47 = .ok (.iconst 3, 1) := by decide +kernel
theorem dX5_judge_48 : decode cX5_judge 48 = .ok (.idiv, 1) := by decide +kernel
theorem dX5_judge_49 : decode cX5_judge 49 = .ok (.iconst 1, 1) := by decide +kernel
theorem dX5_judge_50 : decode cX5_judge 50 = .ok (.iadd, 1) := by decide +kernel
theorem dX5_judge_51 : decode cX5_judge 51 = .ok (.ireturn, 1) := by decide +kernel
theorem dX5_judge_52 : decode cX5_judge 52 = .ok (.iinc 2 1, 3) := by decide +kernel
theorem dX5_judge_55 : decode cX5_judge 55 = .ok (.goto (-34), 3) := by decide +kernel
theorem dX5_judge_58 : decode cX5_judge 58 = .ok (.iconst 0, 1) := by decide +kernel
theorem dX5_judge_59 : decode cX5_judge 59 = .ok (.ireturn, 1) := by decide +kernel
set_option maxRecDepth 20000 in
theorem ggX5_minds_X5_isShelf : GoodIn wsX5_minds wsX5_isShelf := goodIn_r _ [7, 8, 9, 6, 10] (by decide +kernel) (by decide +kernel)
set_option maxRecDepth 20000 in
theorem gX5_minds_X5_isShelf : GoodIn wsX5_minds (va_wsS RX5 297 yX5_isShelf wsX5_isShelf) := goodIn_app (goodIn_of _ (by decide +kernel)) ggX5_minds_X5_isShelf
set_option maxRecDepth 20000 in
theorem ggX5_minds_X5_isOne : GoodIn wsX5_minds wsX5_isOne := goodIn_r _ [14, 1, 8, 9, 6, 10, 27, 28, 29, 30, 31, 32, 33, 34, 35, 36, 37, 38, 39, 40, 41, 42, 43, 44, 45, 46, 47, 48, 49, 50, 51, 52, 53, 54, 55, 56] (by decide +kernel) (by decide +kernel)
set_option maxRecDepth 20000 in
theorem gX5_minds_X5_isOne : GoodIn wsX5_minds (wsV RX5 207 RX5 yX5_isOne wsX5_isOne) := goodIn_app (goodIn_of _ (by decide +kernel)) ggX5_minds_X5_isOne
set_option maxRecDepth 20000 in
theorem ggX5_minds_X5_in : GoodIn wsX5_minds wsX5_in := goodIn_r _ [10] (by decide +kernel) (by decide +kernel)
set_option maxRecDepth 20000 in
theorem gX5_minds_X5_in : GoodIn wsX5_minds (va_wsS RX5 60 yX5_in wsX5_in) := goodIn_app (goodIn_of _ (by decide +kernel)) ggX5_minds_X5_in
set_option maxRecDepth 20000 in
theorem ggX5_minds_X5_lacksSort : GoodIn wsX5_minds wsX5_lacksSort := goodIn_r _ [18, 19, 27, 28, 29, 30, 31, 32, 33, 34, 35, 36, 37, 38, 39, 40, 41, 42, 43, 44, 45, 46, 47, 48, 49, 50, 51, 52, 53, 54, 55, 56] (by decide +kernel) (by decide +kernel)
set_option maxRecDepth 20000 in
theorem gX5_minds_X5_lacksSort : GoodIn wsX5_minds (wsV RX5 320 RX5 yX5_lacksSort wsX5_lacksSort) := goodIn_app (goodIn_of _ (by decide +kernel)) ggX5_minds_X5_lacksSort
set_option maxRecDepth 20000 in
theorem ggX5_minds_X5_held : GoodIn wsX5_minds wsX5_held := goodIn_r _ [22] (by decide +kernel) (by decide +kernel)
set_option maxRecDepth 20000 in
theorem gX5_minds_X5_held : GoodIn wsX5_minds (va_wsS RX5 242 yX5_held wsX5_held) := goodIn_app (goodIn_of _ (by decide +kernel)) ggX5_minds_X5_held
set_option maxRecDepth 20000 in
theorem ggX5_minds_X5_sets : GoodIn wsX5_minds wsX5_sets := goodIn_r _ [26, 1, 27, 28, 29, 30, 31, 32, 33, 34, 35, 36, 37, 38, 39, 40, 41, 42, 43, 44, 45, 46, 47, 48, 49, 50, 51, 52, 53, 54, 55, 56] (by decide +kernel) (by decide +kernel)
set_option maxRecDepth 20000 in
theorem gX5_minds_X5_sets : GoodIn wsX5_minds (wsV RX5 203 RX5 yX5_sets wsX5_sets) := goodIn_app (goodIn_of _ (by decide +kernel)) ggX5_minds_X5_sets
theorem dX5_minds_0 : decode cX5_minds 0 = .ok (.iload_n 1, 1) := by decide +kernel
theorem dX5_minds_1 : decode cX5_minds 1 = .ok (.invokestatic 297, 3) := by decide +kernel
theorem dX5_minds_4 : decode cX5_minds 4 = .ok (.ifCond .eq 36, 3) := by decide +kernel
theorem dX5_minds_7 : decode cX5_minds 7 = .ok (.aload_n 0, 1) := by decide +kernel
theorem dX5_minds_8 : decode cX5_minds 8 = .ok (.iload_n 3, 1) := by decide +kernel
theorem dX5_minds_9 : decode cX5_minds 9 = .ok (.invokevirtual 207, 3) := by decide +kernel
theorem dX5_minds_12 : decode cX5_minds 12 = .ok (.ifCond .eq 28, 3) := by decide +kernel
theorem dX5_minds_15 : decode cX5_minds 15 = .ok (.iload 4, 2) := by decide +kernel
theorem dX5_minds_17 : decode cX5_minds 17 = .ok (.iconst 0, 1) := by decide +kernel
theorem dX5_minds_18 : decode cX5_minds 18 = .ok (.bipush 8, 2) := by decide +kernel
theorem dX5_minds_20 : decode cX5_minds 20 = .ok (.invokestatic 60, 3) := by decide +kernel
theorem dX5_minds_23 : decode cX5_minds 23 = .ok (.ifCond .eq 17, 3) := by decide +kernel
theorem dX5_minds_26 : decode cX5_minds 26 = .ok (.iload 4, 2) := by decide +kernel
theorem dX5_minds_28 : decode cX5_minds 28 = .ok (.aload_n 0, 1) := by decide +kernel
theorem dX5_minds_29 : decode cX5_minds 29 = .ok (.getfield 7, 3) := by decide +kernel
theorem dX5_minds_32 : decode cX5_minds 32 = .ok (.bipush 6, 2) := by decide +kernel
theorem dX5_minds_34 : decode cX5_minds 34 = .ok (.iaload, 1) := by decide +kernel
theorem dX5_minds_35 : decode cX5_minds 35 = .ok (.iload_n 3, 1) := by decide +kernel
theorem dX5_minds_36 : decode cX5_minds 36 = .ok (.isub, 1) := by decide +kernel
theorem dX5_minds_37 : decode cX5_minds 37 = .ok (.if_icmp .le 5, 3) := by decide +kernel
theorem dX5_minds_40 : decode cX5_minds 40 = .ok (.iconst (-1), 1) := by decide +kernel
theorem dX5_minds_41 : decode cX5_minds 41 = .ok (.ireturn, 1) := by decide +kernel
theorem dX5_minds_42 : decode cX5_minds 42 = .ok (.aload_n 0, 1) := by decide +kernel
theorem dX5_minds_43 : decode cX5_minds 43 = .ok (.iload_n 1, 1) := by decide +kernel
theorem dX5_minds_44 : decode cX5_minds 44 = .ok (.iconst 0, 1) := by decide +kernel
theorem dX5_minds_45 : decode cX5_minds 45 = .ok (.invokevirtual 320, 3) := by decide +kernel
theorem dX5_minds_48 : decode cX5_minds 48 = .ok (.istore 5, 2) := by decide +kernel
theorem dX5_minds_50 : decode cX5_minds 50 = .ok (.iload 5, 2) := by decide +kernel
theorem dX5_minds_52 : decode cX5_minds 52 = .ok (.ifCond .eq 6, 3) := by decide +kernel
theorem dX5_minds_55 : decode cX5_minds 55 = .ok (.iload 5, 2) := by decide +kernel
theorem dX5_minds_57 : decode cX5_minds 57 = .ok (.ireturn, 1) := by decide +kernel
theorem dX5_minds_58 : decode cX5_minds 58 = .ok (.iload_n 2, 1) := by decide +kernel
theorem dX5_minds_59 : decode cX5_minds 59 = .ok (.ifCond .lt 16, 3) := by decide +kernel
theorem dX5_minds_62 : decode cX5_minds 62 = .ok (.iload_n 2, 1) := by decide +kernel
theorem dX5_minds_63 : decode cX5_minds 63 = .ok (.aload_n 0, 1) := by decide +kernel
theorem dX5_minds_64 : decode cX5_minds 64 = .ok (.getfield 37, 3) := by decide +kernel
theorem dX5_minds_67 : decode cX5_minds 67 = .ok (.iload_n 1, 1) := by decide +kernel
theorem dX5_minds_68 : decode cX5_minds 68 = .ok (.iaload, 1) := by decide +kernel
theorem dX5_minds_69 : decode cX5_minds 69 = .ok (.iload 4, 2) := by decide +kernel
theorem dX5_minds_71 : decode cX5_minds 71 = .ok (.isub, 1) := by decide +kernel
theorem dX5_minds_72 : decode cX5_minds 72 = .ok (.if_icmp .le 6, 3) := by decide +kernel
theorem dX5_minds_75 : decode cX5_minds 75 = .ok (.bipush (-12), 2) := by decide +kernel
theorem dX5_minds_77 : decode cX5_minds 77 = .ok (.ireturn, 1) := by decide +kernel
theorem dX5_minds_78 : decode cX5_minds 78 = .ok (.iconst 0, 1) := by decide +kernel
theorem dX5_minds_79 : decode cX5_minds 79 = .ok (.istore 6, 2) := by decide +kernel
theorem dX5_minds_81 : decode cX5_minds 81 = .ok (.iload 6, 2) := by decide +kernel
theorem dX5_minds_83 : decode cX5_minds 83 = .ok (.iload 4, 2) := by decide +kernel
theorem dX5_minds_85 : decode cX5_minds 85 = .ok (.if_icmp .ge 39, 3) := by decide +kernel
theorem dX5_minds_88 : decode cX5_minds 88 = .ok (.aload_n 0, 1) := by decide +kernel
theorem dX5_minds_89 : decode cX5_minds 89 = .ok (.iload_n 3, 1) := by decide +kernel
theorem dX5_minds_90 : decode cX5_minds 90 = .ok (.iload 6, 2) := by decide +kernel
theorem dX5_minds_92 : decode cX5_minds 92 = .ok (.iadd, 1) := by decide +kernel
theorem dX5_minds_93 : decode cX5_minds 93 = .ok (.iconst 2, 1) := by decide +kernel
theorem dX5_minds_94 : decode cX5_minds 94 = .ok (.aload_n 0, 1) := by decide +kernel
theorem dX5_minds_95 : decode cX5_minds 95 = .ok (.getfield 40, 3) := by decide +kernel
theorem dX5_minds_98 : decode cX5_minds 98 = .ok (.bipush 40, 2) := by decide +kernel
theorem dX5_minds_100 : decode cX5_minds 100 = .ok (.iload_n 1, 1) := by decide +kernel
theorem dX5_minds_101 : decode cX5_minds 101 = .ok (.imul, 1) := by decide +kernel
theorem dX5_minds_102 : decode cX5_minds 102 = .ok (.iload_n 2, 1) := by decide +kernel
theorem dX5_minds_103 : decode cX5_minds 103 = .ok (.iadd, 1) := by decide +kernel
theorem dX5_minds_104 : decode cX5_minds 104 = .ok (.iload 6, 2) := by decide +kernel
theorem dX5_minds_106 : decode cX5_minds 106 = .ok (.iadd, 1) := by decide +kernel
theorem dX5_minds_107 : decode cX5_minds 107 = .ok (.laload, 1) := by decide +kernel
theorem dX5_minds_108 : decode cX5_minds 108 = .ok (.l2i, 1) := by decide +kernel
theorem dX5_minds_109 : decode cX5_minds 109 = .ok (.iconst 0, 1) := by decide +kernel
theorem dX5_minds_110 : decode cX5_minds 110 = .ok (.bipush 99, 2) := by decide +kernel
theorem dX5_minds_112 : decode cX5_minds 112 = .ok (.invokestatic 242, 3) := by decide +kernel
theorem dX5_minds_115 : decode cX5_minds 115 = .ok (.invokevirtual 203, 3) := by decide +kernel
theorem dX5_minds_118 : decode cX5_minds 118 = .ok (.iinc 6 1, 3) := by decide +kernel
theorem dX5_minds_121 : decode cX5_minds 121 = .ok (.goto (-40), 3) := by decide +kernel
theorem dX5_minds_124 : decode cX5_minds 124 = .ok (.iload 4, 2) := by decide +kernel
theorem dX5_minds_126 : decode cX5_minds 126 = .ok (.ireturn, 1) := by decide +kernel
set_option maxRecDepth 20000 in
theorem ggX5_isShelf_X5_in : GoodIn wsX5_isShelf wsX5_in := goodIn_r _ [4] (by decide +kernel) (by decide +kernel)
set_option maxRecDepth 20000 in
theorem gX5_isShelf_X5_in : GoodIn wsX5_isShelf (va_wsS RX5 60 yX5_in wsX5_in) := goodIn_app (goodIn_of _ (by decide +kernel)) ggX5_isShelf_X5_in
theorem dX5_isShelf_0 : decode cX5_isShelf 0 = .ok (.iload_n 0, 1) := by decide +kernel
theorem dX5_isShelf_1 : decode cX5_isShelf 1 = .ok (.iconst 0, 1) := by decide +kernel
theorem dX5_isShelf_2 : decode cX5_isShelf 2 = .ok (.iconst 3, 1) := by decide +kernel
theorem dX5_isShelf_3 : decode cX5_isShelf 3 = .ok (.invokestatic 60, 3) := by decide +kernel
theorem dX5_isShelf_6 : decode cX5_isShelf 6 = .ok (.ireturn, 1) := by decide +kernel
set_option maxRecDepth 20000 in
theorem ggX5_sheet_X5_isShelf : GoodIn wsX5_sheet wsX5_isShelf := goodIn_r _ [7, 8, 9, 6, 10] (by decide +kernel) (by decide +kernel)
set_option maxRecDepth 20000 in
theorem gX5_sheet_X5_isShelf : GoodIn wsX5_sheet (va_wsS RX5 297 yX5_isShelf wsX5_isShelf) := goodIn_app (goodIn_of _ (by decide +kernel)) ggX5_sheet_X5_isShelf
set_option maxRecDepth 20000 in
theorem ggX5_sheet_X5_in : GoodIn wsX5_sheet wsX5_in := goodIn_r _ [10] (by decide +kernel) (by decide +kernel)
set_option maxRecDepth 20000 in
theorem gX5_sheet_X5_in : GoodIn wsX5_sheet (va_wsS RX5 60 yX5_in wsX5_in) := goodIn_app (goodIn_of _ (by decide +kernel)) ggX5_sheet_X5_in
theorem dX5_sheet_0 : decode cX5_sheet 0 = .ok (.iload_n 1, 1) := by decide +kernel
theorem dX5_sheet_1 : decode cX5_sheet 1 = .ok (.invokestatic 297, 3) := by decide +kernel
theorem dX5_sheet_4 : decode cX5_sheet 4 = .ok (.ifCond .eq 22, 3) := by decide +kernel
theorem dX5_sheet_7 : decode cX5_sheet 7 = .ok (.iload_n 2, 1) := by decide +kernel
theorem dX5_sheet_8 : decode cX5_sheet 8 = .ok (.iconst (-1), 1) := by decide +kernel
theorem dX5_sheet_9 : decode cX5_sheet 9 = .ok (.iconst 3, 1) := by decide +kernel
theorem dX5_sheet_10 : decode cX5_sheet 10 = .ok (.invokestatic 60, 3) := by decide +kernel
theorem dX5_sheet_13 : decode cX5_sheet 13 = .ok (.ifCond .eq 13, 3) := by decide +kernel
theorem dX5_sheet_16 : decode cX5_sheet 16 = .ok (.iload_n 2, 1) := by decide +kernel
theorem dX5_sheet_17 : decode cX5_sheet 17 = .ok (.ifCond .lt 11, 3) := by decide +kernel
theorem dX5_sheet_20 : decode cX5_sheet 20 = .ok (.iload_n 3, 1) := by decide +kernel
theorem dX5_sheet_21 : decode cX5_sheet 21 = .ok (.bipush 40, 2) := by decide +kernel
theorem dX5_sheet_23 : decode cX5_sheet 23 = .ok (.if_icmp .le 5, 3) := by decide +kernel
theorem dX5_sheet_26 : decode cX5_sheet 26 = .ok (.iconst (-1), 1) := by decide +kernel
theorem dX5_sheet_27 : decode cX5_sheet 27 = .ok (.ireturn, 1) := by decide +kernel
theorem dX5_sheet_28 : decode cX5_sheet 28 = .ok (.iload_n 2, 1) := by decide +kernel
theorem dX5_sheet_29 : decode cX5_sheet 29 = .ok (.ifCond .lt 10, 3) := by decide +kernel
theorem dX5_sheet_32 : decode cX5_sheet 32 = .ok (.iload_n 3, 1) := by decide +kernel
theorem dX5_sheet_33 : decode cX5_sheet 33 = .ok (.ifCond .ge 6, 3) := by decide +kernel
theorem dX5_sheet_36 : decode cX5_sheet 36 = .ok (.bipush (-14), 2) := by decide +kernel
theorem dX5_sheet_38 : decode cX5_sheet 38 = .ok (.ireturn, 1) := by decide +kernel
theorem dX5_sheet_39 : decode cX5_sheet 39 = .ok (.aload_n 0, 1) := by decide +kernel
theorem dX5_sheet_40 : decode cX5_sheet 40 = .ok (.getfield 34, 3) := by decide +kernel
theorem dX5_sheet_43 : decode cX5_sheet 43 = .ok (.iload_n 1, 1) := by decide +kernel
theorem dX5_sheet_44 : decode cX5_sheet 44 = .ok (.iload_n 2, 1) := by decide +kernel
theorem dX5_sheet_45 : decode cX5_sheet 45 = .ok (.iastore, 1) := by decide +kernel
theorem dX5_sheet_46 : decode cX5_sheet 46 = .ok (.aload_n 0, 1) := by decide +kernel
theorem dX5_sheet_47 : decode cX5_sheet 47 = .ok (.getfield 37, 3) := by decide +kernel
theorem dX5_sheet_50 : decode cX5_sheet 50 = .ok (.iload_n 1, 1) := by decide +kernel
theorem dX5_sheet_51 : decode cX5_sheet 51 = .ok (.iload_n 2, 1) := by decide +kernel
theorem dX5_sheet_52 : decode cX5_sheet 52 = .ok (.ifCond .ge 7, 3) := by decide +kernel
theorem dX5_sheet_55 : decode cX5_sheet 55 = .ok (.iconst 0, 1) := by decide +kernel
theorem dX5_sheet_56 : decode cX5_sheet 56 = .ok (.goto 4, 3) := by decide +kernel
theorem dX5_sheet_59 : decode cX5_sheet 59 = .ok (.iload_n 3, 1) := by decide +kernel
theorem dX5_sheet_60 : decode cX5_sheet 60 = .ok (.iastore, 1) := by decide +kernel
theorem dX5_sheet_61 : decode cX5_sheet 61 = .ok (.iconst 0, 1) := by decide +kernel
theorem dX5_sheet_62 : decode cX5_sheet 62 = .ok (.istore 4, 2) := by decide +kernel
theorem dX5_sheet_64 : decode cX5_sheet 64 = .ok (.iload 4, 2) := by decide +kernel
theorem dX5_sheet_66 : decode cX5_sheet 66 = .ok (.bipush 40, 2) := by decide +kernel
theorem dX5_sheet_68 : decode cX5_sheet 68 = .ok (.if_icmp .ge 22, 3) := by decide +kernel
theorem dX5_sheet_71 : decode cX5_sheet 71 = .ok (.aload_n 0, 1) := by decide +kernel
theorem dX5_sheet_72 : decode cX5_sheet 72 = .ok (.getfield 40, 3) := by decide +kernel
theorem dX5_sheet_75 : decode cX5_sheet 75 = .ok (.bipush 40, 2) := by decide +kernel
theorem dX5_sheet_77 : decode cX5_sheet 77 = .ok (.iload_n 1, 1) := by decide +kernel
theorem dX5_sheet_78 : decode cX5_sheet 78 = .ok (.imul, 1) := by decide +kernel
theorem dX5_sheet_79 : decode cX5_sheet 79 = .ok (.iload 4, 2) := by decide +kernel
theorem dX5_sheet_81 : decode cX5_sheet 81 = .ok (.iadd, 1) := by decide +kernel
theorem dX5_sheet_82 : decode cX5_sheet 82 = .ok (.lconst 0, 1) := by decide +kernel
theorem dX5_sheet_83 : decode cX5_sheet 83 = .ok (.lastore, 1) := by decide +kernel
theorem dX5_sheet_84 : decode cX5_sheet 84 = .ok (.iinc 4 1, 3) := by decide +kernel
theorem dX5_sheet_87 : decode cX5_sheet 87 = .ok (.goto (-23), 3) := by decide +kernel
theorem dX5_sheet_90 : decode cX5_sheet 90 = .ok (.iconst 1, 1) := by decide +kernel
theorem dX5_sheet_91 : decode cX5_sheet 91 = .ok (.ireturn, 1) := by decide +kernel
set_option maxRecDepth 20000 in
theorem ggX5_put_X5_isShelf : GoodIn wsX5_put wsX5_isShelf := goodIn_r _ [7, 8, 9, 6, 10] (by decide +kernel) (by decide +kernel)
set_option maxRecDepth 20000 in
theorem gX5_put_X5_isShelf : GoodIn wsX5_put (va_wsS RX5 297 yX5_isShelf wsX5_isShelf) := goodIn_app (goodIn_of _ (by decide +kernel)) ggX5_put_X5_isShelf
set_option maxRecDepth 20000 in
theorem ggX5_put_X5_in : GoodIn wsX5_put wsX5_in := goodIn_r _ [10] (by decide +kernel) (by decide +kernel)
set_option maxRecDepth 20000 in
theorem gX5_put_X5_in : GoodIn wsX5_put (va_wsS RX5 60 yX5_in wsX5_in) := goodIn_app (goodIn_of _ (by decide +kernel)) ggX5_put_X5_in
theorem dX5_put_0 : decode cX5_put 0 = .ok (.iload_n 1, 1) := by decide +kernel
theorem dX5_put_1 : decode cX5_put 1 = .ok (.invokestatic 297, 3) := by decide +kernel
theorem dX5_put_4 : decode cX5_put 4 = .ok (.ifCond .ne 5, 3) := by decide +kernel
theorem dX5_put_7 : decode cX5_put 7 = .ok (.iconst (-1), 1) := by decide +kernel
theorem dX5_put_8 : decode cX5_put 8 = .ok (.ireturn, 1) := by decide +kernel
theorem dX5_put_9 : decode cX5_put 9 = .ok (.aload_n 0, 1) := by decide +kernel
theorem dX5_put_10 : decode cX5_put 10 = .ok (.getfield 34, 3) := by decide +kernel
theorem dX5_put_13 : decode cX5_put 13 = .ok (.iload_n 1, 1) := by decide +kernel
theorem dX5_put_14 : decode cX5_put 14 = .ok (.iaload, 1) := by decide +kernel
theorem dX5_put_15 : decode cX5_put 15 = .ok (.ifCond .ge 6, 3) := by decide +kernel
theorem dX5_put_18 : decode cX5_put 18 = .ok (.bipush (-11), 2) := by decide +kernel
theorem dX5_put_20 : decode cX5_put 20 = .ok (.ireturn, 1) := by decide +kernel
theorem dX5_put_21 : decode cX5_put 21 = .ok (.iload_n 2, 1) := by decide +kernel
theorem dX5_put_22 : decode cX5_put 22 = .ok (.iconst 0, 1) := by decide +kernel
theorem dX5_put_23 : decode cX5_put 23 = .ok (.aload_n 0, 1) := by decide +kernel
theorem dX5_put_24 : decode cX5_put 24 = .ok (.getfield 37, 3) := by decide +kernel
theorem dX5_put_27 : decode cX5_put 27 = .ok (.iload_n 1, 1) := by decide +kernel
theorem dX5_put_28 : decode cX5_put 28 = .ok (.iaload, 1) := by decide +kernel
theorem dX5_put_29 : decode cX5_put 29 = .ok (.iconst 1, 1) := by decide +kernel
theorem dX5_put_30 : decode cX5_put 30 = .ok (.isub, 1) := by decide +kernel
theorem dX5_put_31 : decode cX5_put 31 = .ok (.invokestatic 60, 3) := by decide +kernel
theorem dX5_put_34 : decode cX5_put 34 = .ok (.ifCond .ne 6, 3) := by decide +kernel
theorem dX5_put_37 : decode cX5_put 37 = .ok (.bipush (-12), 2) := by decide +kernel
theorem dX5_put_39 : decode cX5_put 39 = .ok (.ireturn, 1) := by decide +kernel
theorem dX5_put_40 : decode cX5_put 40 = .ok (.aload_n 0, 1) := by decide +kernel
theorem dX5_put_41 : decode cX5_put 41 = .ok (.getfield 40, 3) := by decide +kernel
theorem dX5_put_44 : decode cX5_put 44 = .ok (.bipush 40, 2) := by decide +kernel
theorem dX5_put_46 : decode cX5_put 46 = .ok (.iload_n 1, 1) := by decide +kernel
theorem dX5_put_47 : decode cX5_put 47 = .ok (.imul, 1) := by decide +kernel
theorem dX5_put_48 : decode cX5_put 48 = .ok (.iload_n 2, 1) := by decide +kernel
theorem dX5_put_49 : decode cX5_put 49 = .ok (.iadd, 1) := by decide +kernel
theorem dX5_put_50 : decode cX5_put 50 = .ok (.aload_n 0, 1) := by decide +kernel
theorem dX5_put_51 : decode cX5_put 51 = .ok (.getfield 34, 3) := by decide +kernel
theorem dX5_put_54 : decode cX5_put 54 = .ok (.iload_n 1, 1) := by decide +kernel
theorem dX5_put_55 : decode cX5_put 55 = .ok (.iaload, 1) := by decide +kernel
theorem dX5_put_56 : decode cX5_put 56 = .ok (.ifCond .ne 9, 3) := by decide +kernel
theorem dX5_put_59 : decode cX5_put 59 = .ok (.iload_n 3, 1) := by decide +kernel
theorem dX5_put_60 : decode cX5_put 60 = .ok (.i2b, 1) := by decide +kernel
theorem dX5_put_61 : decode cX5_put 61 = .ok (.i2l, 1) := by decide +kernel
theorem dX5_put_62 : decode cX5_put 62 = .ok (.goto 21, 3) := by decide +kernel
theorem dX5_put_65 : decode cX5_put 65 = .ok (.aload_n 0, 1) := by decide +kernel
theorem dX5_put_66 : decode cX5_put 66 = .ok (.getfield 34, 3) := by decide +kernel
theorem dX5_put_69 : decode cX5_put 69 = .ok (.iload_n 1, 1) := by decide +kernel
theorem dX5_put_70 : decode cX5_put 70 = .ok (.iaload, 1) := by decide +kernel
theorem dX5_put_71 : decode cX5_put 71 = .ok (.iconst 1, 1) := by decide +kernel
theorem dX5_put_72 : decode cX5_put 72 = .ok (.if_icmp .ne 9, 3) := by decide +kernel
theorem dX5_put_75 : decode cX5_put 75 = .ok (.iload_n 3, 1) := by decide +kernel
theorem dX5_put_76 : decode cX5_put 76 = .ok (.i2s, 1) := by decide +kernel
theorem dX5_put_77 : decode cX5_put 77 = .ok (.i2l, 1) := by decide +kernel
theorem dX5_put_78 : decode cX5_put 78 = .ok (.goto 5, 3) := by decide +kernel
theorem dX5_put_81 : decode cX5_put 81 = .ok (.iload_n 3, 1) := by decide +kernel
theorem dX5_put_82 : decode cX5_put 82 = .ok (.i2l, 1) := by decide +kernel
theorem dX5_put_83 : decode cX5_put 83 = .ok (.lastore, 1) := by decide +kernel
theorem dX5_put_84 : decode cX5_put 84 = .ok (.iconst 1, 1) := by decide +kernel
theorem dX5_put_85 : decode cX5_put 85 = .ok (.ireturn, 1) := by decide +kernel
theorem dX5_lacksSort_0 : decode cX5_lacksSort 0 = .ok (.aload_n 0, 1) := by decide +kernel
theorem dX5_lacksSort_1 : decode cX5_lacksSort 1 = .ok (.getfield 34, 3) := by decide +kernel
theorem dX5_lacksSort_4 : decode cX5_lacksSort 4 = .ok (.iload_n 1, 1) := by decide +kernel
theorem dX5_lacksSort_5 : decode cX5_lacksSort 5 = .ok (.iaload, 1) := by decide +kernel
theorem dX5_lacksSort_6 : decode cX5_lacksSort 6 = .ok (.ifCond .ge 8, 3) := by decide +kernel
theorem dX5_lacksSort_9 : decode cX5_lacksSort 9 = .ok (.bipush (-11), 2) := by decide +kernel
theorem dX5_lacksSort_11 : decode cX5_lacksSort 11 = .ok (.goto 19, 3) := by decide +kernel
theorem dX5_lacksSort_14 : decode cX5_lacksSort 14 = .ok (.aload_n 0, 1) := by decide +kernel
theorem dX5_lacksSort_15 : decode cX5_lacksSort 15 = .ok (.getfield 34, 3) := by decide +kernel
theorem dX5_lacksSort_18 : decode cX5_lacksSort 18 = .ok (.iload_n 1, 1) := by decide +kernel
theorem dX5_lacksSort_19 : decode cX5_lacksSort 19 = .ok (.iaload, 1) := by decide +kernel
theorem dX5_lacksSort_20 : decode cX5_lacksSort 20 = .ok (.iload_n 2, 1) := by decide +kernel
theorem dX5_lacksSort_21 : decode cX5_lacksSort 21 = .ok (.if_icmp .eq 8, 3) := by decide +kernel
theorem dX5_lacksSort_24 : decode cX5_lacksSort 24 = .ok (.bipush (-13), 2) := by decide +kernel
theorem dX5_lacksSort_26 : decode cX5_lacksSort 26 = .ok (.goto 4, 3) := by decide +kernel
theorem dX5_lacksSort_29 : decode cX5_lacksSort 29 = .ok (.iconst 0, 1) := by decide +kernel
theorem dX5_lacksSort_30 : decode cX5_lacksSort 30 = .ok (.ireturn, 1) := by decide +kernel
set_option maxRecDepth 20000 in
theorem ggX5_item_X5_isShelf : GoodIn wsX5_item wsX5_isShelf := goodIn_r _ [6, 7, 8, 5, 9] (by decide +kernel) (by decide +kernel)
set_option maxRecDepth 20000 in
theorem gX5_item_X5_isShelf : GoodIn wsX5_item (va_wsS RX5 297 yX5_isShelf wsX5_isShelf) := goodIn_app (goodIn_of _ (by decide +kernel)) ggX5_item_X5_isShelf
set_option maxRecDepth 20000 in
theorem ggX5_item_X5_in : GoodIn wsX5_item wsX5_in := goodIn_r _ [9] (by decide +kernel) (by decide +kernel)
set_option maxRecDepth 20000 in
theorem gX5_item_X5_in : GoodIn wsX5_item (va_wsS RX5 60 yX5_in wsX5_in) := goodIn_app (goodIn_of _ (by decide +kernel)) ggX5_item_X5_in
set_option maxRecDepth 20000 in
theorem ggX5_item_X5_lacksSort : GoodIn wsX5_item wsX5_lacksSort := goodIn_r _ [13, 14, 15, 16, 17, 18, 19, 20, 21, 22, 23, 24, 25, 26, 27, 28, 29, 30, 31, 32, 33, 34, 35, 36, 37, 38, 39, 40, 41, 42, 43, 44] (by decide +kernel) (by decide +kernel)
set_option maxRecDepth 20000 in
theorem gX5_item_X5_lacksSort : GoodIn wsX5_item (wsV RX5 320 RX5 yX5_lacksSort wsX5_lacksSort) := goodIn_app (goodIn_of _ (by decide +kernel)) ggX5_item_X5_lacksSort
theorem dX5_item_0 : decode cX5_item 0 = .ok (.iload_n 1, 1) := by decide +kernel
theorem dX5_item_1 : decode cX5_item 1 = .ok (.invokestatic 297, 3) := by decide +kernel
theorem dX5_item_4 : decode cX5_item 4 = .ok (.ifCond .eq 12, 3) := by decide +kernel
theorem dX5_item_7 : decode cX5_item 7 = .ok (.iload_n 2, 1) := by decide +kernel
theorem dX5_item_8 : decode cX5_item 8 = .ok (.iconst 0, 1) := by decide +kernel
theorem dX5_item_9 : decode cX5_item 9 = .ok (.iconst 3, 1) := by decide +kernel
theorem dX5_item_10 : decode cX5_item 10 = .ok (.invokestatic 60, 3) := by decide +kernel
theorem dX5_item_13 : decode cX5_item 13 = .ok (.ifCond .ne 5, 3) := by decide +kernel
theorem dX5_item_16 : decode cX5_item 16 = .ok (.iconst (-1), 1) := by decide +kernel
theorem dX5_item_17 : decode cX5_item 17 = .ok (.ireturn, 1) := by decide +kernel
theorem dX5_item_18 : decode cX5_item 18 = .ok (.aload_n 0, 1) := by decide +kernel
theorem dX5_item_19 : decode cX5_item 19 = .ok (.iload_n 1, 1) := by decide +kernel
theorem dX5_item_20 : decode cX5_item 20 = .ok (.iload_n 2, 1) := by decide +kernel
theorem dX5_item_21 : decode cX5_item 21 = .ok (.invokevirtual 320, 3) := by decide +kernel
theorem dX5_item_24 : decode cX5_item 24 = .ok (.istore 4, 2) := by decide +kernel
theorem dX5_item_26 : decode cX5_item 26 = .ok (.iload 4, 2) := by decide +kernel
theorem dX5_item_28 : decode cX5_item 28 = .ok (.ifCond .eq 6, 3) := by decide +kernel
theorem dX5_item_31 : decode cX5_item 31 = .ok (.iload 4, 2) := by decide +kernel
theorem dX5_item_33 : decode cX5_item 33 = .ok (.ireturn, 1) := by decide +kernel
theorem dX5_item_34 : decode cX5_item 34 = .ok (.iload_n 3, 1) := by decide +kernel
theorem dX5_item_35 : decode cX5_item 35 = .ok (.iconst 0, 1) := by decide +kernel
theorem dX5_item_36 : decode cX5_item 36 = .ok (.aload_n 0, 1) := by decide +kernel
theorem dX5_item_37 : decode cX5_item 37 = .ok (.getfield 37, 3) := by decide +kernel
theorem dX5_item_40 : decode cX5_item 40 = .ok (.iload_n 1, 1) := by decide +kernel
theorem dX5_item_41 : decode cX5_item 41 = .ok (.iaload, 1) := by decide +kernel
theorem dX5_item_42 : decode cX5_item 42 = .ok (.iconst 1, 1) := by decide +kernel
theorem dX5_item_43 : decode cX5_item 43 = .ok (.isub, 1) := by decide +kernel
theorem dX5_item_44 : decode cX5_item 44 = .ok (.invokestatic 60, 3) := by decide +kernel
theorem dX5_item_47 : decode cX5_item 47 = .ok (.ifCond .eq 18, 3) := by decide +kernel
theorem dX5_item_50 : decode cX5_item 50 = .ok (.aload_n 0, 1) := by decide +kernel
theorem dX5_item_51 : decode cX5_item 51 = .ok (.getfield 40, 3) := by decide +kernel
theorem dX5_item_54 : decode cX5_item 54 = .ok (.bipush 40, 2) := by decide +kernel
theorem dX5_item_56 : decode cX5_item 56 = .ok (.iload_n 1, 1) := by decide +kernel
theorem dX5_item_57 : decode cX5_item 57 = .ok (.imul, 1) := by decide +kernel
theorem dX5_item_58 : decode cX5_item 58 = .ok (.iload_n 3, 1) := by decide +kernel
theorem dX5_item_59 : decode cX5_item 59 = .ok (.iadd, 1) := by decide +kernel
theorem dX5_item_60 : decode cX5_item 60 = .ok (.laload, 1) := by decide +kernel
theorem dX5_item_61 : decode cX5_item 61 = .ok (.l2i, 1) := by decide +kernel
theorem dX5_item_62 : decode cX5_item 62 = .ok (.goto 5, 3) := by decide +kernel
theorem dX5_item_65 : decode cX5_item 65 = .ok (.bipush (-12), 2) := by decide +kernel
theorem dX5_item_67 : decode cX5_item 67 = .ok (.ireturn, 1) := by decide +kernel
set_option maxRecDepth 20000 in
theorem ggX5_isHeld_X5_isOne : GoodIn wsX5_isHeld wsX5_isOne := goodIn_r _ [5, 6, 7, 8, 4, 9, 13, 14, 15, 16, 17, 18, 19, 20, 21, 22, 23, 24, 25, 26, 27, 28, 29, 30, 31, 32, 33, 34, 35, 36, 37, 38, 39, 40, 41, 42] (by decide +kernel) (by decide +kernel)
set_option maxRecDepth 20000 in
theorem gX5_isHeld_X5_isOne : GoodIn wsX5_isHeld (wsV RX5 207 RX5 yX5_isOne wsX5_isOne) := goodIn_app (goodIn_of _ (by decide +kernel)) ggX5_isHeld_X5_isOne
set_option maxRecDepth 20000 in
theorem ggX5_isHeld_X5_isShelf : GoodIn wsX5_isHeld wsX5_isShelf := goodIn_r _ [12, 7, 8, 4, 9] (by decide +kernel) (by decide +kernel)
set_option maxRecDepth 20000 in
theorem gX5_isHeld_X5_isShelf : GoodIn wsX5_isHeld (va_wsS RX5 297 yX5_isShelf wsX5_isShelf) := goodIn_app (goodIn_of _ (by decide +kernel)) ggX5_isHeld_X5_isShelf
theorem dX5_isHeld_0 : decode cX5_isHeld 0 = .ok (.iload_n 1, 1) := by decide +kernel
theorem dX5_isHeld_1 : decode cX5_isHeld 1 = .ok (.ifCond .ne 11, 3) := by decide +kernel
theorem dX5_isHeld_4 : decode cX5_isHeld 4 = .ok (.aload_n 0, 1) := by decide +kernel
theorem dX5_isHeld_5 : decode cX5_isHeld 5 = .ok (.iload_n 2, 1) := by decide +kernel
theorem dX5_isHeld_6 : decode cX5_isHeld 6 = .ok (.invokevirtual 207, 3) := by decide +kernel
theorem dX5_isHeld_9 : decode cX5_isHeld 9 = .ok (.goto 25, 3) := by decide +kernel
theorem dX5_isHeld_12 : decode cX5_isHeld 12 = .ok (.iload_n 1, 1) := by decide +kernel
theorem dX5_isHeld_13 : decode cX5_isHeld 13 = .ok (.iconst 1, 1) := by decide +kernel
theorem dX5_isHeld_14 : decode cX5_isHeld 14 = .ok (.if_icmp .ne 10, 3) := by decide +kernel
theorem dX5_isHeld_17 : decode cX5_isHeld 17 = .ok (.iload_n 2, 1) := by decide +kernel
theorem dX5_isHeld_18 : decode cX5_isHeld 18 = .ok (.invokestatic 297, 3) := by decide +kernel
theorem dX5_isHeld_21 : decode cX5_isHeld 21 = .ok (.goto 13, 3) := by decide +kernel
theorem dX5_isHeld_24 : decode cX5_isHeld 24 = .ok (.iload_n 1, 1) := by decide +kernel
theorem dX5_isHeld_25 : decode cX5_isHeld 25 = .ok (.iconst 2, 1) := by decide +kernel
theorem dX5_isHeld_26 : decode cX5_isHeld 26 = .ok (.if_icmp .ne 7, 3) := by decide +kernel
theorem dX5_isHeld_29 : decode cX5_isHeld 29 = .ok (.iconst 1, 1) := by decide +kernel
theorem dX5_isHeld_30 : decode cX5_isHeld 30 = .ok (.goto 4, 3) := by decide +kernel
theorem dX5_isHeld_33 : decode cX5_isHeld 33 = .ok (.iconst 0, 1) := by decide +kernel
theorem dX5_isHeld_34 : decode cX5_isHeld 34 = .ok (.ireturn, 1) := by decide +kernel
set_option maxRecDepth 20000 in
theorem ggX5_shelf_X5_isShelf : GoodIn wsX5_shelf wsX5_isShelf := goodIn_r _ [9, 10, 11, 8, 12] (by decide +kernel) (by decide +kernel)
set_option maxRecDepth 20000 in
theorem gX5_shelf_X5_isShelf : GoodIn wsX5_shelf (va_wsS RX5 297 yX5_isShelf wsX5_isShelf) := goodIn_app (goodIn_of _ (by decide +kernel)) ggX5_shelf_X5_isShelf
set_option maxRecDepth 20000 in
theorem ggX5_shelf_X5_isHeld : GoodIn wsX5_shelf wsX5_isHeld := goodIn_r _ [16, 17, 18, 19, 8, 20, 21, 10, 11, 12, 6, 7, 9, 22, 23, 24, 25, 26, 27, 28, 29, 30, 31, 32, 33, 34, 35, 36, 37, 38, 39, 40, 41, 42, 43, 44, 45, 46, 47, 48, 49, 50, 51] (by decide +kernel) (by decide +kernel)
set_option maxRecDepth 20000 in
theorem gX5_shelf_X5_isHeld : GoodIn wsX5_shelf (wsV RX5 323 RX5 yX5_isHeld wsX5_isHeld) := goodIn_app (goodIn_of _ (by decide +kernel)) ggX5_shelf_X5_isHeld
theorem dX5_shelf_0 : decode cX5_shelf 0 = .ok (.iload_n 1, 1) := by decide +kernel
theorem dX5_shelf_1 : decode cX5_shelf 1 = .ok (.invokestatic 297, 3) := by decide +kernel
theorem dX5_shelf_4 : decode cX5_shelf 4 = .ok (.ifCond .eq 12, 3) := by decide +kernel
theorem dX5_shelf_7 : decode cX5_shelf 7 = .ok (.aload_n 0, 1) := by decide +kernel
theorem dX5_shelf_8 : decode cX5_shelf 8 = .ok (.iload_n 2, 1) := by decide +kernel
theorem dX5_shelf_9 : decode cX5_shelf 9 = .ok (.iload_n 3, 1) := by decide +kernel
theorem dX5_shelf_10 : decode cX5_shelf 10 = .ok (.invokevirtual 323, 3) := by decide +kernel
theorem dX5_shelf_13 : decode cX5_shelf 13 = .ok (.ifCond .ne 5, 3) := by decide +kernel
theorem dX5_shelf_16 : decode cX5_shelf 16 = .ok (.iconst (-1), 1) := by decide +kernel
theorem dX5_shelf_17 : decode cX5_shelf 17 = .ok (.ireturn, 1) := by decide +kernel
theorem dX5_shelf_18 : decode cX5_shelf 18 = .ok (.aload_n 0, 1) := by decide +kernel
theorem dX5_shelf_19 : decode cX5_shelf 19 = .ok (.getfield 44, 3) := by decide +kernel
theorem dX5_shelf_22 : decode cX5_shelf 22 = .ok (.iload_n 1, 1) := by decide +kernel
theorem dX5_shelf_23 : decode cX5_shelf 23 = .ok (.iload_n 2, 1) := by decide +kernel
theorem dX5_shelf_24 : decode cX5_shelf 24 = .ok (.iconst 2, 1) := by decide +kernel
theorem dX5_shelf_25 : decode cX5_shelf 25 = .ok (.if_icmp .eq 17, 3) := by decide +kernel
theorem dX5_shelf_28 : decode cX5_shelf 28 = .ok (.iload_n 2, 1) := by decide +kernel
theorem dX5_shelf_29 : decode cX5_shelf 29 = .ok (.iconst 1, 1) := by decide +kernel
theorem dX5_shelf_30 : decode cX5_shelf 30 = .ok (.if_icmp .ne 16, 3) := by decide +kernel
theorem dX5_shelf_33 : decode cX5_shelf 33 = .ok (.aload_n 0, 1) := by decide +kernel
theorem dX5_shelf_34 : decode cX5_shelf 34 = .ok (.getfield 34, 3) := by decide +kernel
theorem dX5_shelf_37 : decode cX5_shelf 37 = .ok (.iload_n 3, 1) := by decide +kernel
theorem dX5_shelf_38 : decode cX5_shelf 38 = .ok (.iaload, 1) := by decide +kernel
theorem dX5_shelf_39 : decode cX5_shelf 39 = .ok (.ifCond .ge 7, 3) := by decide +kernel
theorem dX5_shelf_42 : decode cX5_shelf 42 = .ok (.iconst (-1), 1) := by decide +kernel
theorem dX5_shelf_43 : decode cX5_shelf 43 = .ok (.goto 4, 3) := by decide +kernel
theorem dX5_shelf_46 : decode cX5_shelf 46 = .ok (.iload_n 2, 1) := by decide +kernel
theorem dX5_shelf_47 : decode cX5_shelf 47 = .ok (.iastore, 1) := by decide +kernel
theorem dX5_shelf_48 : decode cX5_shelf 48 = .ok (.aload_n 0, 1) := by decide +kernel
theorem dX5_shelf_49 : decode cX5_shelf 49 = .ok (.getfield 47, 3) := by decide +kernel
theorem dX5_shelf_52 : decode cX5_shelf 52 = .ok (.iload_n 1, 1) := by decide +kernel
theorem dX5_shelf_53 : decode cX5_shelf 53 = .ok (.iload_n 2, 1) := by decide +kernel
theorem dX5_shelf_54 : decode cX5_shelf 54 = .ok (.iconst 1, 1) := by decide +kernel
theorem dX5_shelf_55 : decode cX5_shelf 55 = .ok (.if_icmp .ne 12, 3) := by decide +kernel
theorem dX5_shelf_58 : decode cX5_shelf 58 = .ok (.aload_n 0, 1) := by decide +kernel
theorem dX5_shelf_59 : decode cX5_shelf 59 = .ok (.getfield 34, 3) := by decide +kernel
theorem dX5_shelf_62 : decode cX5_shelf 62 = .ok (.iload_n 3, 1) := by decide +kernel
theorem dX5_shelf_63 : decode cX5_shelf 63 = .ok (.iaload, 1) := by decide +kernel
theorem dX5_shelf_64 : decode cX5_shelf 64 = .ok (.goto 4, 3) := by decide +kernel
theorem dX5_shelf_67 : decode cX5_shelf 67 = .ok (.iload_n 3, 1) := by decide +kernel
theorem dX5_shelf_68 : decode cX5_shelf 68 = .ok (.iastore, 1) := by decide +kernel
theorem dX5_shelf_69 : decode cX5_shelf 69 = .ok (.aload_n 0, 1) := by decide +kernel
theorem dX5_shelf_70 : decode cX5_shelf 70 = .ok (.getfield 50, 3) := by decide +kernel
theorem dX5_shelf_73 : decode cX5_shelf 73 = .ok (.iload_n 1, 1) := by decide +kernel
theorem dX5_shelf_74 : decode cX5_shelf 74 = .ok (.iload_n 2, 1) := by decide +kernel
theorem dX5_shelf_75 : decode cX5_shelf 75 = .ok (.iconst 1, 1) := by decide +kernel
theorem dX5_shelf_76 : decode cX5_shelf 76 = .ok (.if_icmp .ne 12, 3) := by decide +kernel
theorem dX5_shelf_79 : decode cX5_shelf 79 = .ok (.aload_n 0, 1) := by decide +kernel
theorem dX5_shelf_80 : decode cX5_shelf 80 = .ok (.getfield 37, 3) := by decide +kernel
theorem dX5_shelf_83 : decode cX5_shelf 83 = .ok (.iload_n 3, 1) := by decide +kernel
theorem dX5_shelf_84 : decode cX5_shelf 84 = .ok (.iaload, 1) := by decide +kernel
theorem dX5_shelf_85 : decode cX5_shelf 85 = .ok (.goto 4, 3) := by decide +kernel
theorem dX5_shelf_88 : decode cX5_shelf 88 = .ok (.iconst 0, 1) := by decide +kernel
theorem dX5_shelf_89 : decode cX5_shelf 89 = .ok (.iastore, 1) := by decide +kernel
theorem dX5_shelf_90 : decode cX5_shelf 90 = .ok (.iconst 1, 1) := by decide +kernel
theorem dX5_shelf_91 : decode cX5_shelf 91 = .ok (.ireturn, 1) := by decide +kernel
set_option maxRecDepth 20000 in
theorem ggX5_kindOn_X5_isOne : GoodIn wsX5_kindOn wsX5_isOne := goodIn_r _ [7, 8, 9, 10, 6, 11, 16, 17, 18, 19, 20, 21, 22, 23, 24, 25, 26, 27, 28, 29, 30, 31, 32, 33, 34, 35, 36, 37, 38, 39, 40, 41, 42, 43, 44, 45] (by decide +kernel) (by decide +kernel)
set_option maxRecDepth 20000 in
theorem gX5_kindOn_X5_isOne : GoodIn wsX5_kindOn (wsV RX5 207 RX5 yX5_isOne wsX5_isOne) := goodIn_app (goodIn_of _ (by decide +kernel)) ggX5_kindOn_X5_isOne
set_option maxRecDepth 20000 in
theorem ggX5_kindOn_X5_its : GoodIn wsX5_kindOn wsX5_its := goodIn_r _ [15, 8, 16, 17, 18, 19, 20, 21, 22, 23, 24, 25, 26, 27, 28, 29, 30, 31, 32, 33, 34, 35, 36, 37, 38, 39, 40, 41, 42, 43, 44, 45] (by decide +kernel) (by decide +kernel)
set_option maxRecDepth 20000 in
theorem gX5_kindOn_X5_its : GoodIn wsX5_kindOn (wsV RX5 210 RX5 yX5_its wsX5_its) := goodIn_app (goodIn_of _ (by decide +kernel)) ggX5_kindOn_X5_its
theorem dX5_kindOn_0 : decode cX5_kindOn 0 = .ok (.aload_n 0, 1) := by decide +kernel
theorem dX5_kindOn_1 : decode cX5_kindOn 1 = .ok (.getfield 44, 3) := by decide +kernel
theorem dX5_kindOn_4 : decode cX5_kindOn 4 = .ok (.iload_n 1, 1) := by decide +kernel
theorem dX5_kindOn_5 : decode cX5_kindOn 5 = .ok (.iaload, 1) := by decide +kernel
theorem dX5_kindOn_6 : decode cX5_kindOn 6 = .ok (.ifCond .eq 19, 3) := by decide +kernel
theorem dX5_kindOn_9 : decode cX5_kindOn 9 = .ok (.aload_n 0, 1) := by decide +kernel
theorem dX5_kindOn_10 : decode cX5_kindOn 10 = .ok (.getfield 44, 3) := by decide +kernel
theorem dX5_kindOn_13 : decode cX5_kindOn 13 = .ok (.iload_n 1, 1) := by decide +kernel
theorem dX5_kindOn_14 : decode cX5_kindOn 14 = .ok (.iaload, 1) := by decide +kernel
theorem dX5_kindOn_15 : decode cX5_kindOn 15 = .ok (.ifCond .ge 7, 3) := by decide +kernel
theorem dX5_kindOn_18 : decode cX5_kindOn 18 = .ok (.iconst (-1), 1) := by decide +kernel
theorem dX5_kindOn_19 : decode cX5_kindOn 19 = .ok (.goto 5, 3) := by decide +kernel
theorem dX5_kindOn_22 : decode cX5_kindOn 22 = .ok (.bipush 9, 2) := by decide +kernel
theorem dX5_kindOn_24 : decode cX5_kindOn 24 = .ok (.ireturn, 1) := by decide +kernel
theorem dX5_kindOn_25 : decode cX5_kindOn 25 = .ok (.aload_n 0, 1) := by decide +kernel
theorem dX5_kindOn_26 : decode cX5_kindOn 26 = .ok (.aload_n 0, 1) := by decide +kernel
theorem dX5_kindOn_27 : decode cX5_kindOn 27 = .ok (.getfield 47, 3) := by decide +kernel
theorem dX5_kindOn_30 : decode cX5_kindOn 30 = .ok (.iload_n 1, 1) := by decide +kernel
theorem dX5_kindOn_31 : decode cX5_kindOn 31 = .ok (.iaload, 1) := by decide +kernel
theorem dX5_kindOn_32 : decode cX5_kindOn 32 = .ok (.invokevirtual 207, 3) := by decide +kernel
theorem dX5_kindOn_35 : decode cX5_kindOn 35 = .ok (.ifCond .eq 17, 3) := by decide +kernel
theorem dX5_kindOn_38 : decode cX5_kindOn 38 = .ok (.aload_n 0, 1) := by decide +kernel
theorem dX5_kindOn_39 : decode cX5_kindOn 39 = .ok (.aload_n 0, 1) := by decide +kernel
theorem dX5_kindOn_40 : decode cX5_kindOn 40 = .ok (.getfield 47, 3) := by decide +kernel
theorem dX5_kindOn_43 : decode cX5_kindOn 43 = .ok (.iload_n 1, 1) := by decide +kernel
theorem dX5_kindOn_44 : decode cX5_kindOn 44 = .ok (.iaload, 1) := by decide +kernel
theorem dX5_kindOn_45 : decode cX5_kindOn 45 = .ok (.iconst 0, 1) := by decide +kernel
theorem dX5_kindOn_46 : decode cX5_kindOn 46 = .ok (.invokevirtual 210, 3) := by decide +kernel
theorem dX5_kindOn_49 : decode cX5_kindOn 49 = .ok (.goto 4, 3) := by decide +kernel
theorem dX5_kindOn_52 : decode cX5_kindOn 52 = .ok (.iconst (-1), 1) := by decide +kernel
theorem dX5_kindOn_53 : decode cX5_kindOn 53 = .ok (.ireturn, 1) := by decide +kernel
theorem dX5_isUnder_0 : decode cX5_isUnder 0 = .ok (.iload_n 1, 1) := by decide +kernel
theorem dX5_isUnder_1 : decode cX5_isUnder 1 = .ok (.ifCond .eq 28, 3) := by decide +kernel
theorem dX5_isUnder_4 : decode cX5_isUnder 4 = .ok (.iload_n 1, 1) := by decide +kernel
theorem dX5_isUnder_5 : decode cX5_isUnder 5 = .ok (.iload_n 0, 1) := by decide +kernel
theorem dX5_isUnder_6 : decode cX5_isUnder 6 = .ok (.if_icmp .eq 23, 3) := by decide +kernel
theorem dX5_isUnder_9 : decode cX5_isUnder 9 = .ok (.iload_n 1, 1) := by decide +kernel
theorem dX5_isUnder_10 : decode cX5_isUnder 10 = .ok (.iconst 1, 1) := by decide +kernel
theorem dX5_isUnder_11 : decode cX5_isUnder 11 = .ok (.if_icmp .ne 8, 3) := by decide +kernel
theorem dX5_isUnder_14 : decode cX5_isUnder 14 = .ok (.iload_n 0, 1) := by decide +kernel
theorem dX5_isUnder_15 : decode cX5_isUnder 15 = .ok (.iconst 3, 1) := by decide +kernel
theorem dX5_isUnder_16 : decode cX5_isUnder 16 = .ok (.if_icmp .eq 13, 3) := by decide +kernel
theorem dX5_isUnder_19 : decode cX5_isUnder 19 = .ok (.iload_n 1, 1) := by decide +kernel
theorem dX5_isUnder_20 : decode cX5_isUnder 20 = .ok (.iconst 2, 1) := by decide +kernel
theorem dX5_isUnder_21 : decode cX5_isUnder 21 = .ok (.if_icmp .ne 12, 3) := by decide +kernel
theorem dX5_isUnder_24 : decode cX5_isUnder 24 = .ok (.iload_n 0, 1) := by decide +kernel
theorem dX5_isUnder_25 : decode cX5_isUnder 25 = .ok (.iconst 4, 1) := by decide +kernel
theorem dX5_isUnder_26 : decode cX5_isUnder 26 = .ok (.if_icmp .ne 7, 3) := by decide +kernel
theorem dX5_isUnder_29 : decode cX5_isUnder 29 = .ok (.iconst 1, 1) := by decide +kernel
theorem dX5_isUnder_30 : decode cX5_isUnder 30 = .ok (.goto 4, 3) := by decide +kernel
theorem dX5_isUnder_33 : decode cX5_isUnder 33 = .ok (.iconst 0, 1) := by decide +kernel
theorem dX5_isUnder_34 : decode cX5_isUnder 34 = .ok (.ireturn, 1) := by decide +kernel
set_option maxRecDepth 20000 in
theorem ggX5_taken_X5_isShelf : GoodIn wsX5_taken wsX5_isShelf := goodIn_r _ [6, 7, 8, 5, 9] (by decide +kernel) (by decide +kernel)
set_option maxRecDepth 20000 in
theorem gX5_taken_X5_isShelf : GoodIn wsX5_taken (va_wsS RX5 297 yX5_isShelf wsX5_isShelf) := goodIn_app (goodIn_of _ (by decide +kernel)) ggX5_taken_X5_isShelf
set_option maxRecDepth 20000 in
theorem ggX5_taken_X5_in : GoodIn wsX5_taken wsX5_in := goodIn_r _ [9] (by decide +kernel) (by decide +kernel)
set_option maxRecDepth 20000 in
theorem gX5_taken_X5_in : GoodIn wsX5_taken (va_wsS RX5 60 yX5_in wsX5_in) := goodIn_app (goodIn_of _ (by decide +kernel)) ggX5_taken_X5_in
set_option maxRecDepth 20000 in
theorem ggX5_taken_X5_kindOn : GoodIn wsX5_taken wsX5_kindOn := goodIn_r _ [13, 14, 1, 15, 16, 17, 5, 18, 19, 7, 8, 9, 20, 21, 22, 23, 27, 28, 29, 30, 31, 32, 33, 34, 35, 36, 37, 38, 39, 40, 41, 42, 43, 44, 45, 46, 47, 48, 49, 50, 51, 52, 53, 54, 55, 56] (by decide +kernel) (by decide +kernel)
set_option maxRecDepth 20000 in
theorem gX5_taken_X5_kindOn : GoodIn wsX5_taken (wsV RX5 326 RX5 yX5_kindOn wsX5_kindOn) := goodIn_app (goodIn_of _ (by decide +kernel)) ggX5_taken_X5_kindOn
set_option maxRecDepth 20000 in
theorem ggX5_taken_X5_isUnder : GoodIn wsX5_taken wsX5_isUnder := goodIn_r _ [26] (by decide +kernel) (by decide +kernel)
set_option maxRecDepth 20000 in
theorem gX5_taken_X5_isUnder : GoodIn wsX5_taken (va_wsS RX5 329 yX5_isUnder wsX5_isUnder) := goodIn_app (goodIn_of _ (by decide +kernel)) ggX5_taken_X5_isUnder
theorem dX5_taken_0 : decode cX5_taken 0 = .ok (.iload_n 1, 1) := by decide +kernel
theorem dX5_taken_1 : decode cX5_taken 1 = .ok (.invokestatic 297, 3) := by decide +kernel
theorem dX5_taken_4 : decode cX5_taken 4 = .ok (.ifCond .eq 23, 3) := by decide +kernel
theorem dX5_taken_7 : decode cX5_taken 7 = .ok (.iload_n 2, 1) := by decide +kernel
theorem dX5_taken_8 : decode cX5_taken 8 = .ok (.iconst 0, 1) := by decide +kernel
theorem dX5_taken_9 : decode cX5_taken 9 = .ok (.iconst 5, 1) := by decide +kernel
theorem dX5_taken_10 : decode cX5_taken 10 = .ok (.invokestatic 60, 3) := by decide +kernel
theorem dX5_taken_13 : decode cX5_taken 13 = .ok (.ifCond .ne 16, 3) := by decide +kernel
theorem dX5_taken_16 : decode cX5_taken 16 = .ok (.iload_n 2, 1) := by decide +kernel
theorem dX5_taken_17 : decode cX5_taken 17 = .ok (.bipush 10, 2) := by decide +kernel
theorem dX5_taken_19 : decode cX5_taken 19 = .ok (.bipush 13, 2) := by decide +kernel
theorem dX5_taken_21 : decode cX5_taken 21 = .ok (.invokestatic 60, 3) := by decide +kernel
theorem dX5_taken_24 : decode cX5_taken 24 = .ok (.ifCond .ne 5, 3) := by decide +kernel
theorem dX5_taken_27 : decode cX5_taken 27 = .ok (.iconst (-1), 1) := by decide +kernel
theorem dX5_taken_28 : decode cX5_taken 28 = .ok (.ireturn, 1) := by decide +kernel
theorem dX5_taken_29 : decode cX5_taken 29 = .ok (.aload_n 0, 1) := by decide +kernel
theorem dX5_taken_30 : decode cX5_taken 30 = .ok (.iload_n 1, 1) := by decide +kernel
theorem dX5_taken_31 : decode cX5_taken 31 = .ok (.invokevirtual 326, 3) := by decide +kernel
theorem dX5_taken_34 : decode cX5_taken 34 = .ok (.istore_n 3, 1) := by decide +kernel
theorem dX5_taken_35 : decode cX5_taken 35 = .ok (.iload_n 3, 1) := by decide +kernel
theorem dX5_taken_36 : decode cX5_taken 36 = .ok (.ifCond .ge 6, 3) := by decide +kernel
theorem dX5_taken_39 : decode cX5_taken 39 = .ok (.bipush (-11), 2) := by decide +kernel
theorem dX5_taken_41 : decode cX5_taken 41 = .ok (.ireturn, 1) := by decide +kernel
theorem dX5_taken_42 : decode cX5_taken 42 = .ok (.iload_n 3, 1) := by decide +kernel
theorem dX5_taken_43 : decode cX5_taken 43 = .ok (.bipush 9, 2) := by decide +kernel
theorem dX5_taken_45 : decode cX5_taken 45 = .ok (.if_icmp .ne 28, 3) := by decide +kernel
theorem dX5_taken_48 : decode cX5_taken 48 = .ok (.iload_n 2, 1) := by decide +kernel
theorem dX5_taken_49 : decode cX5_taken 49 = .ok (.bipush 10, 2) := by decide +kernel
theorem dX5_taken_51 : decode cX5_taken 51 = .ok (.aload_n 0, 1) := by decide +kernel
theorem dX5_taken_52 : decode cX5_taken 52 = .ok (.getfield 47, 3) := by decide +kernel
theorem dX5_taken_55 : decode cX5_taken 55 = .ok (.iload_n 1, 1) := by decide +kernel
theorem dX5_taken_56 : decode cX5_taken 56 = .ok (.iaload, 1) := by decide +kernel
theorem dX5_taken_57 : decode cX5_taken 57 = .ok (.iadd, 1) := by decide +kernel
theorem dX5_taken_58 : decode cX5_taken 58 = .ok (.if_icmp .ne 12, 3) := by decide +kernel
theorem dX5_taken_61 : decode cX5_taken 61 = .ok (.aload_n 0, 1) := by decide +kernel
theorem dX5_taken_62 : decode cX5_taken 62 = .ok (.getfield 50, 3) := by decide +kernel
theorem dX5_taken_65 : decode cX5_taken 65 = .ok (.iload_n 1, 1) := by decide +kernel
theorem dX5_taken_66 : decode cX5_taken 66 = .ok (.iaload, 1) := by decide +kernel
theorem dX5_taken_67 : decode cX5_taken 67 = .ok (.goto 5, 3) := by decide +kernel
theorem dX5_taken_70 : decode cX5_taken 70 = .ok (.bipush (-13), 2) := by decide +kernel
theorem dX5_taken_72 : decode cX5_taken 72 = .ok (.ireturn, 1) := by decide +kernel
theorem dX5_taken_73 : decode cX5_taken 73 = .ok (.iload_n 2, 1) := by decide +kernel
theorem dX5_taken_74 : decode cX5_taken 74 = .ok (.bipush 10, 2) := by decide +kernel
theorem dX5_taken_76 : decode cX5_taken 76 = .ok (.if_icmp .ge 20, 3) := by decide +kernel
theorem dX5_taken_79 : decode cX5_taken 79 = .ok (.iload_n 3, 1) := by decide +kernel
theorem dX5_taken_80 : decode cX5_taken 80 = .ok (.iload_n 2, 1) := by decide +kernel
theorem dX5_taken_81 : decode cX5_taken 81 = .ok (.invokestatic 329, 3) := by decide +kernel
theorem dX5_taken_84 : decode cX5_taken 84 = .ok (.ifCond .eq 12, 3) := by decide +kernel
theorem dX5_taken_87 : decode cX5_taken 87 = .ok (.aload_n 0, 1) := by decide +kernel
theorem dX5_taken_88 : decode cX5_taken 88 = .ok (.getfield 47, 3) := by decide +kernel
theorem dX5_taken_91 : decode cX5_taken 91 = .ok (.iload_n 1, 1) := by decide +kernel
theorem dX5_taken_92 : decode cX5_taken 92 = .ok (.iaload, 1) := by decide +kernel
theorem dX5_taken_93 : decode cX5_taken 93 = .ok (.goto 5, 3) := by decide +kernel
theorem dX5_taken_96 : decode cX5_taken 96 = .ok (.bipush (-13), 2) := by decide +kernel
theorem dX5_taken_98 : decode cX5_taken 98 = .ok (.ireturn, 1) := by decide +kernel
theorem dX5_ran_0 : decode cX5_ran 0 = .ok (.aload_n 0, 1) := by decide +kernel
theorem dX5_ran_1 : decode cX5_ran 1 = .ok (.getfield 332, 3) := by decide +kernel
theorem dX5_ran_4 : decode cX5_ran 4 = .ok (.bipush 30, 2) := by decide +kernel
theorem dX5_ran_6 : decode cX5_ran 6 = .ok (.if_icmp .ge 23, 3) := by decide +kernel
theorem dX5_ran_9 : decode cX5_ran 9 = .ok (.aload_n 0, 1) := by decide +kernel
theorem dX5_ran_10 : decode cX5_ran 10 = .ok (.getfield 53, 3) := by decide +kernel
theorem dX5_ran_13 : decode cX5_ran 13 = .ok (.aload_n 0, 1) := by decide +kernel
theorem dX5_ran_14 : decode cX5_ran 14 = .ok (.getfield 332, 3) := by decide +kernel
theorem dX5_ran_17 : decode cX5_ran 17 = .ok (.iload_n 1, 1) := by decide +kernel
theorem dX5_ran_18 : decode cX5_ran 18 = .ok (.iastore, 1) := by decide +kernel
theorem dX5_ran_19 : decode cX5_ran 19 = .ok (.aload_n 0, 1) := by decide +kernel
theorem dX5_ran_20 : decode cX5_ran 20 = .ok (.dup, 1) := by decide +kernel
theorem dX5_ran_21 : decode cX5_ran 21 = .ok (.getfield 332, 3) := by decide +kernel
theorem dX5_ran_24 : decode cX5_ran 24 = .ok (.iconst 1, 1) := by decide +kernel
theorem dX5_ran_25 : decode cX5_ran 25 = .ok (.iadd, 1) := by decide +kernel
theorem dX5_ran_26 : decode cX5_ran 26 = .ok (.putfield 332, 3) := by decide +kernel
theorem dX5_ran_29 : decode cX5_ran 29 = .ok (.return_, 1) := by decide +kernel
set_option maxRecDepth 20000 in
theorem ggX5_plainSprays_X5_ran : GoodIn wsX5_plainSprays wsX5_ran := goodIn_r _ [6, 7, 8, 9, 10, 11, 12, 13, 14, 15, 16, 17, 18, 19, 20, 21, 22, 23, 24, 25, 26, 27, 28, 29, 30, 31, 32, 33, 34, 35, 36, 37, 38] (by decide +kernel) (by decide +kernel)
set_option maxRecDepth 20000 in
theorem gX5_plainSprays_X5_ran : GoodIn wsX5_plainSprays (wsV RX5 335 RX5 yX5_ran wsX5_ran) := goodIn_app (goodIn_of _ (by decide +kernel)) ggX5_plainSprays_X5_ran
theorem dX5_plainSprays_0 : decode cX5_plainSprays 0 = .ok (.aload_n 0, 1) := by decide +kernel
theorem dX5_plainSprays_1 : decode cX5_plainSprays 1 = .ok (.bipush 10, 2) := by decide +kernel
theorem dX5_plainSprays_3 : decode cX5_plainSprays 3 = .ok (.invokevirtual 335, 3) := by decide +kernel
theorem dX5_plainSprays_6 : decode cX5_plainSprays 6 = .ok (.iload_n 1, 1) := by decide +kernel
theorem dX5_plainSprays_7 : decode cX5_plainSprays 7 = .ok (.bipush 7, 2) := by decide +kernel
theorem dX5_plainSprays_9 : decode cX5_plainSprays 9 = .ok (.imul, 1) := by decide +kernel
theorem dX5_plainSprays_10 : decode cX5_plainSprays 10 = .ok (.aload_n 0, 1) := by decide +kernel
theorem dX5_plainSprays_11 : decode cX5_plainSprays 11 = .ok (.getfield 338, 3) := by decide +kernel
theorem dX5_plainSprays_14 : decode cX5_plainSprays 14 = .ok (.iadd, 1) := by decide +kernel
theorem dX5_plainSprays_15 : decode cX5_plainSprays 15 = .ok (.ireturn, 1) := by decide +kernel
set_option maxRecDepth 20000 in
theorem ggX5_coveredSprays_X5_ran : GoodIn wsX5_coveredSprays wsX5_ran := goodIn_r _ [5, 6, 7, 13, 14, 15, 16, 17, 18, 19, 20, 21, 22, 23, 24, 25, 26, 27, 28, 29, 30, 31, 32, 33, 34, 35, 36, 37, 38, 39, 40, 41, 42] (by decide +kernel) (by decide +kernel)
set_option maxRecDepth 20000 in
theorem gX5_coveredSprays_X5_ran : GoodIn wsX5_coveredSprays (wsV RX5 335 RX5 yX5_ran wsX5_ran) := goodIn_app (goodIn_of _ (by decide +kernel)) ggX5_coveredSprays_X5_ran
set_option maxRecDepth 20000 in
theorem ggX5_coveredSprays_X5_plainSprays : GoodIn wsX5_coveredSprays wsX5_plainSprays := goodIn_r _ [11, 12, 1, 2, 3, 4, 5, 6, 7, 13, 14, 15, 16, 17, 18, 19, 20, 21, 22, 23, 24, 25, 26, 27, 28, 29, 30, 31, 32, 33, 34, 35, 36, 37, 38, 39, 40, 41, 42] (by decide +kernel) (by decide +kernel)
set_option maxRecDepth 20000 in
theorem gX5_coveredSprays_X5_plainSprays : GoodIn wsX5_coveredSprays (wsV RX5 341 RX5 yX5_plainSprays wsX5_plainSprays) := goodIn_app (goodIn_of _ (by decide +kernel)) ggX5_coveredSprays_X5_plainSprays
theorem dX5_coveredSprays_0 : decode cX5_coveredSprays 0 = .ok (.aload_n 0, 1) := by decide +kernel
theorem dX5_coveredSprays_1 : decode cX5_coveredSprays 1 = .ok (.bipush 30, 2) := by decide +kernel
theorem dX5_coveredSprays_3 : decode cX5_coveredSprays 3 = .ok (.invokevirtual 335, 3) := by decide +kernel
theorem dX5_coveredSprays_6 : decode cX5_coveredSprays 6 = .ok (.aload_n 0, 1) := by decide +kernel
theorem dX5_coveredSprays_7 : decode cX5_coveredSprays 7 = .ok (.iload_n 1, 1) := by decide +kernel
theorem dX5_coveredSprays_8 : decode cX5_coveredSprays 8 = .ok (.invokevirtual 341, 3) := by decide +kernel
theorem dX5_coveredSprays_11 : decode cX5_coveredSprays 11 = .ok (.ineg, 1) := by decide +kernel
theorem dX5_coveredSprays_12 : decode cX5_coveredSprays 12 = .ok (.ireturn, 1) := by decide +kernel
set_option maxRecDepth 20000 in
theorem ggX5_spraysIt_X5_coveredSprays : GoodIn wsX5_spraysIt wsX5_coveredSprays := goodIn_r _ [7, 8, 9, 10, 6, 11, 12, 13, 14, 15, 16, 17, 18, 19, 20, 21, 22, 23, 24, 25, 26, 27, 28, 29, 30, 31, 32, 33, 34, 35, 36, 37, 38, 39, 40, 41, 42, 43, 44, 45, 46, 47, 48] (by decide +kernel) (by decide +kernel)
set_option maxRecDepth 20000 in
theorem gX5_spraysIt_X5_coveredSprays : GoodIn wsX5_spraysIt (wsV RX5 347 RX5 yX5_coveredSprays wsX5_coveredSprays) := goodIn_app (goodIn_of _ (by decide +kernel)) ggX5_spraysIt_X5_coveredSprays
set_option maxRecDepth 20000 in
theorem ggX5_spraysIt_X5_ran : GoodIn wsX5_spraysIt wsX5_ran := goodIn_r _ [11, 12, 13, 19, 20, 21, 22, 23, 24, 25, 26, 27, 28, 29, 30, 31, 32, 33, 34, 35, 36, 37, 38, 39, 40, 41, 42, 43, 44, 45, 46, 47, 48] (by decide +kernel) (by decide +kernel)
set_option maxRecDepth 20000 in
theorem gX5_spraysIt_X5_ran : GoodIn wsX5_spraysIt (wsV RX5 335 RX5 yX5_ran wsX5_ran) := goodIn_app (goodIn_of _ (by decide +kernel)) ggX5_spraysIt_X5_ran
set_option maxRecDepth 20000 in
theorem ggX5_spraysIt_X5_plainSprays : GoodIn wsX5_spraysIt wsX5_plainSprays := goodIn_r _ [17, 18, 8, 9, 10, 6, 11, 12, 13, 19, 20, 21, 22, 23, 24, 25, 26, 27, 28, 29, 30, 31, 32, 33, 34, 35, 36, 37, 38, 39, 40, 41, 42, 43, 44, 45, 46, 47, 48] (by decide +kernel) (by decide +kernel)
set_option maxRecDepth 20000 in
theorem gX5_spraysIt_X5_plainSprays : GoodIn wsX5_spraysIt (wsV RX5 341 RX5 yX5_plainSprays wsX5_plainSprays) := goodIn_app (goodIn_of _ (by decide +kernel)) ggX5_spraysIt_X5_plainSprays
theorem dX5_spraysIt_0 : decode cX5_spraysIt 0 = .ok (.aload_n 0, 1) := by decide +kernel
theorem dX5_spraysIt_1 : decode cX5_spraysIt 1 = .ok (.getfield 344, 3) := by decide +kernel
theorem dX5_spraysIt_4 : decode cX5_spraysIt 4 = .ok (.tableswitch 66 2 4 #[28, 49, 34], 28) := by decide +kernel
theorem dX5_spraysIt_32 : decode cX5_spraysIt 32 = .ok (.aload_n 0, 1) := by decide +kernel
theorem dX5_spraysIt_33 : decode cX5_spraysIt 33 = .ok (.iload_n 1, 1) := by decide +kernel
theorem dX5_spraysIt_34 : decode cX5_spraysIt 34 = .ok (.invokevirtual 347, 3) := by decide +kernel
theorem dX5_spraysIt_37 : decode cX5_spraysIt 37 = .ok (.ireturn, 1) := by decide +kernel
theorem dX5_spraysIt_38 : decode cX5_spraysIt 38 = .ok (.aload_n 0, 1) := by decide +kernel
theorem dX5_spraysIt_39 : decode cX5_spraysIt 39 = .ok (.bipush 40, 2) := by decide +kernel
theorem dX5_spraysIt_41 : decode cX5_spraysIt 41 = .ok (.invokevirtual 335, 3) := by decide +kernel
theorem dX5_spraysIt_44 : decode cX5_spraysIt 44 = .ok (.aload_n 0, 1) := by decide +kernel
theorem dX5_spraysIt_45 : decode cX5_spraysIt 45 = .ok (.iload_n 1, 1) := by decide +kernel
theorem dX5_spraysIt_46 : decode cX5_spraysIt 46 = .ok (.invokevirtual 347, 3) := by decide +kernel
theorem dX5_spraysIt_49 : decode cX5_spraysIt 49 = .ok (.bipush 12, 2) := by decide +kernel
theorem dX5_spraysIt_51 : decode cX5_spraysIt 51 = .ok (.ixor, 1) := by decide +kernel
theorem dX5_spraysIt_52 : decode cX5_spraysIt 52 = .ok (.ireturn, 1) := by decide +kernel
theorem dX5_spraysIt_53 : decode cX5_spraysIt 53 = .ok (.aload_n 0, 1) := by decide +kernel
theorem dX5_spraysIt_54 : decode cX5_spraysIt 54 = .ok (.bipush 51, 2) := by decide +kernel
theorem dX5_spraysIt_56 : decode cX5_spraysIt 56 = .ok (.invokevirtual 335, 3) := by decide +kernel
theorem dX5_spraysIt_59 : decode cX5_spraysIt 59 = .ok (.aload_n 0, 1) := by decide +kernel
theorem dX5_spraysIt_60 : decode cX5_spraysIt 60 = .ok (.iload_n 1, 1) := by decide +kernel
theorem dX5_spraysIt_61 : decode cX5_spraysIt 61 = .ok (.invokevirtual 341, 3) := by decide +kernel
theorem dX5_spraysIt_64 : decode cX5_spraysIt 64 = .ok (.aload_n 0, 1) := by decide +kernel
theorem dX5_spraysIt_65 : decode cX5_spraysIt 65 = .ok (.getfield 350, 3) := by decide +kernel
theorem dX5_spraysIt_68 : decode cX5_spraysIt 68 = .ok (.isub, 1) := by decide +kernel
theorem dX5_spraysIt_69 : decode cX5_spraysIt 69 = .ok (.ireturn, 1) := by decide +kernel
theorem dX5_spraysIt_70 : decode cX5_spraysIt 70 = .ok (.aload_n 0, 1) := by decide +kernel
theorem dX5_spraysIt_71 : decode cX5_spraysIt 71 = .ok (.iload_n 1, 1) := by decide +kernel
theorem dX5_spraysIt_72 : decode cX5_spraysIt 72 = .ok (.invokevirtual 341, 3) := by decide +kernel
theorem dX5_spraysIt_75 : decode cX5_spraysIt 75 = .ok (.ireturn, 1) := by decide +kernel
set_option maxRecDepth 20000 in
theorem ggX5_plainDrips_X5_ran : GoodIn wsX5_plainDrips wsX5_ran := goodIn_r _ [6, 7, 8, 23, 24, 25, 26, 27, 28, 29, 30, 31, 32, 33, 34, 35, 36, 37, 38, 39, 40, 41, 42, 43, 44, 45, 46, 47, 48, 49, 50, 51, 52] (by decide +kernel) (by decide +kernel)
set_option maxRecDepth 20000 in
theorem gX5_plainDrips_X5_ran : GoodIn wsX5_plainDrips (wsV RX5 335 RX5 yX5_ran wsX5_ran) := goodIn_app (goodIn_of _ (by decide +kernel)) ggX5_plainDrips_X5_ran
set_option maxRecDepth 20000 in
theorem ggX5_plainDrips_X5_spraysIt : GoodIn wsX5_plainDrips wsX5_spraysIt := goodIn_r _ [12, 13, 1, 14, 15, 16, 5, 17, 2, 3, 4, 6, 7, 8, 18, 19, 20, 21, 22, 23, 24, 25, 26, 27, 28, 29, 30, 31, 32, 33, 34, 35, 36, 37, 38, 39, 40, 41, 42, 43, 44, 45, 46, 47, 48, 49, 50, 51, 52] (by decide +kernel) (by decide +kernel)
set_option maxRecDepth 20000 in
theorem gX5_plainDrips_X5_spraysIt : GoodIn wsX5_plainDrips (wsV RX5 353 RX5 yX5_spraysIt wsX5_spraysIt) := goodIn_app (goodIn_of _ (by decide +kernel)) ggX5_plainDrips_X5_spraysIt
theorem dX5_plainDrips_0 : decode cX5_plainDrips 0 = .ok (.aload_n 0, 1) := by decide +kernel
theorem dX5_plainDrips_1 : decode cX5_plainDrips 1 = .ok (.bipush 11, 2) := by decide +kernel
theorem dX5_plainDrips_3 : decode cX5_plainDrips 3 = .ok (.invokevirtual 335, 3) := by decide +kernel
theorem dX5_plainDrips_6 : decode cX5_plainDrips 6 = .ok (.aload_n 0, 1) := by decide +kernel
theorem dX5_plainDrips_7 : decode cX5_plainDrips 7 = .ok (.iload_n 1, 1) := by decide +kernel
theorem dX5_plainDrips_8 : decode cX5_plainDrips 8 = .ok (.invokevirtual 353, 3) := by decide +kernel
theorem dX5_plainDrips_11 : decode cX5_plainDrips 11 = .ok (.aload_n 0, 1) := by decide +kernel
theorem dX5_plainDrips_12 : decode cX5_plainDrips 12 = .ok (.getfield 350, 3) := by decide +kernel
theorem dX5_plainDrips_15 : decode cX5_plainDrips 15 = .ok (.iconst 5, 1) := by decide +kernel
theorem dX5_plainDrips_16 : decode cX5_plainDrips 16 = .ok (.imul, 1) := by decide +kernel
theorem dX5_plainDrips_17 : decode cX5_plainDrips 17 = .ok (.isub, 1) := by decide +kernel
theorem dX5_plainDrips_18 : decode cX5_plainDrips 18 = .ok (.ireturn, 1) := by decide +kernel
set_option maxRecDepth 20000 in
theorem ggX5_dripsIt_X5_ran : GoodIn wsX5_dripsIt wsX5_ran := goodIn_r _ [7, 8, 9, 27, 28, 29, 30, 31, 32, 33, 34, 35, 36, 37, 38, 39, 40, 41, 42, 43, 44, 45, 46, 47, 48, 49, 50, 51, 52, 53, 54, 55, 56] (by decide +kernel) (by decide +kernel)
set_option maxRecDepth 20000 in
theorem gX5_dripsIt_X5_ran : GoodIn wsX5_dripsIt (wsV RX5 335 RX5 yX5_ran wsX5_ran) := goodIn_app (goodIn_of _ (by decide +kernel)) ggX5_dripsIt_X5_ran
set_option maxRecDepth 20000 in
theorem ggX5_dripsIt_X5_plainDrips : GoodIn wsX5_dripsIt wsX5_plainDrips := goodIn_r _ [13, 2, 3, 4, 5, 6, 7, 8, 9, 14, 15, 16, 17, 1, 18, 19, 20, 21, 22, 23, 24, 25, 26, 27, 28, 29, 30, 31, 32, 33, 34, 35, 36, 37, 38, 39, 40, 41, 42, 43, 44, 45, 46, 47, 48, 49, 50, 51, 52, 53, 54, 55, 56] (by decide +kernel) (by decide +kernel)
set_option maxRecDepth 20000 in
theorem gX5_dripsIt_X5_plainDrips : GoodIn wsX5_dripsIt (wsV RX5 356 RX5 yX5_plainDrips wsX5_plainDrips) := goodIn_app (goodIn_of _ (by decide +kernel)) ggX5_dripsIt_X5_plainDrips
set_option maxRecDepth 20000 in
theorem ggX5_dripsIt_X5_spraysIt : GoodIn wsX5_dripsIt wsX5_spraysIt := goodIn_r _ [17, 1, 2, 18, 19, 20, 6, 21, 3, 4, 5, 7, 8, 9, 22, 23, 24, 25, 26, 27, 28, 29, 30, 31, 32, 33, 34, 35, 36, 37, 38, 39, 40, 41, 42, 43, 44, 45, 46, 47, 48, 49, 50, 51, 52, 53, 54, 55, 56] (by decide +kernel) (by decide +kernel)
set_option maxRecDepth 20000 in
theorem gX5_dripsIt_X5_spraysIt : GoodIn wsX5_dripsIt (wsV RX5 353 RX5 yX5_spraysIt wsX5_spraysIt) := goodIn_app (goodIn_of _ (by decide +kernel)) ggX5_dripsIt_X5_spraysIt
theorem dX5_dripsIt_0 : decode cX5_dripsIt 0 = .ok (.aload_n 0, 1) := by decide +kernel
theorem dX5_dripsIt_1 : decode cX5_dripsIt 1 = .ok (.getfield 344, 3) := by decide +kernel
theorem dX5_dripsIt_4 : decode cX5_dripsIt 4 = .ok (.iconst 1, 1) := by decide +kernel
theorem dX5_dripsIt_5 : decode cX5_dripsIt 5 = .ok (.if_icmp .eq 11, 3) := by decide +kernel
theorem dX5_dripsIt_8 : decode cX5_dripsIt 8 = .ok (.aload_n 0, 1) := by decide +kernel
theorem dX5_dripsIt_9 : decode cX5_dripsIt 9 = .ok (.getfield 344, 3) := by decide +kernel
theorem dX5_dripsIt_12 : decode cX5_dripsIt 12 = .ok (.iconst 3, 1) := by decide +kernel
theorem dX5_dripsIt_13 : decode cX5_dripsIt 13 = .ok (.if_icmp .ne 18, 3) := by decide +kernel
theorem dX5_dripsIt_16 : decode cX5_dripsIt 16 = .ok (.aload_n 0, 1) := by decide +kernel
theorem dX5_dripsIt_17 : decode cX5_dripsIt 17 = .ok (.bipush 20, 2) := by decide +kernel
theorem dX5_dripsIt_19 : decode cX5_dripsIt 19 = .ok (.invokevirtual 335, 3) := by decide +kernel
theorem dX5_dripsIt_22 : decode cX5_dripsIt 22 = .ok (.aload_n 0, 1) := by decide +kernel
theorem dX5_dripsIt_23 : decode cX5_dripsIt 23 = .ok (.iload_n 1, 1) := by decide +kernel
theorem dX5_dripsIt_24 : decode cX5_dripsIt 24 = .ok (.invokevirtual 356, 3) := by decide +kernel
theorem dX5_dripsIt_27 : decode cX5_dripsIt 27 = .ok (.bipush 9, 2) := by decide +kernel
theorem dX5_dripsIt_29 : decode cX5_dripsIt 29 = .ok (.iadd, 1) := by decide +kernel
theorem dX5_dripsIt_30 : decode cX5_dripsIt 30 = .ok (.ireturn, 1) := by decide +kernel
theorem dX5_dripsIt_31 : decode cX5_dripsIt 31 = .ok (.aload_n 0, 1) := by decide +kernel
theorem dX5_dripsIt_32 : decode cX5_dripsIt 32 = .ok (.getfield 344, 3) := by decide +kernel
theorem dX5_dripsIt_35 : decode cX5_dripsIt 35 = .ok (.iconst 4, 1) := by decide +kernel
theorem dX5_dripsIt_36 : decode cX5_dripsIt 36 = .ok (.if_icmp .ne 26, 3) := by decide +kernel
theorem dX5_dripsIt_39 : decode cX5_dripsIt 39 = .ok (.aload_n 0, 1) := by decide +kernel
theorem dX5_dripsIt_40 : decode cX5_dripsIt 40 = .ok (.bipush 41, 2) := by decide +kernel
theorem dX5_dripsIt_42 : decode cX5_dripsIt 42 = .ok (.invokevirtual 335, 3) := by decide +kernel
theorem dX5_dripsIt_45 : decode cX5_dripsIt 45 = .ok (.aload_n 0, 1) := by decide +kernel
theorem dX5_dripsIt_46 : decode cX5_dripsIt 46 = .ok (.iload_n 1, 1) := by decide +kernel
theorem dX5_dripsIt_47 : decode cX5_dripsIt 47 = .ok (.invokevirtual 356, 3) := by decide +kernel
theorem dX5_dripsIt_50 : decode cX5_dripsIt 50 = .ok (.istore_n 2, 1) := by decide +kernel
theorem dX5_dripsIt_51 : decode cX5_dripsIt 51 = .ok (.iload_n 2, 1) := by decide +kernel
theorem dX5_dripsIt_52 : decode cX5_dripsIt 52 = .ok (.aload_n 0, 1) := by decide +kernel
theorem dX5_dripsIt_53 : decode cX5_dripsIt 53 = .ok (.aload_n 0, 1) := by decide +kernel
theorem dX5_dripsIt_54 : decode cX5_dripsIt 54 = .ok (.getfield 350, 3) := by decide +kernel
theorem dX5_dripsIt_57 : decode cX5_dripsIt 57 = .ok (.invokevirtual 353, 3) := by decide +kernel
theorem dX5_dripsIt_60 : decode cX5_dripsIt 60 = .ok (.iadd, 1) := by decide +kernel
theorem dX5_dripsIt_61 : decode cX5_dripsIt 61 = .ok (.ireturn, 1) := by decide +kernel
theorem dX5_dripsIt_62 : decode cX5_dripsIt 62 = .ok (.aload_n 0, 1) := by decide +kernel
theorem dX5_dripsIt_63 : decode cX5_dripsIt 63 = .ok (.iload_n 1, 1) := by decide +kernel
theorem dX5_dripsIt_64 : decode cX5_dripsIt 64 = .ok (.invokevirtual 356, 3) := by decide +kernel
theorem dX5_dripsIt_67 : decode cX5_dripsIt 67 = .ok (.ireturn, 1) := by decide +kernel
set_option maxRecDepth 20000 in
theorem ggX5_plainParts_X5_ran : GoodIn wsX5_plainParts wsX5_ran := goodIn_r _ [8, 9, 10, 11, 12, 13, 14, 15, 16, 17, 18, 19, 20, 21, 22, 23, 24, 25, 26, 27, 28, 29, 30, 31, 32, 33, 34, 35, 36, 37, 38, 39, 40] (by decide +kernel) (by decide +kernel)
set_option maxRecDepth 20000 in
theorem gX5_plainParts_X5_ran : GoodIn wsX5_plainParts (wsV RX5 335 RX5 yX5_ran wsX5_ran) := goodIn_app (goodIn_of _ (by decide +kernel)) ggX5_plainParts_X5_ran
theorem dX5_plainParts_0 : decode cX5_plainParts 0 = .ok (.aload_n 0, 1) := by decide +kernel
theorem dX5_plainParts_1 : decode cX5_plainParts 1 = .ok (.bipush 12, 2) := by decide +kernel
theorem dX5_plainParts_3 : decode cX5_plainParts 3 = .ok (.invokevirtual 335, 3) := by decide +kernel
theorem dX5_plainParts_6 : decode cX5_plainParts 6 = .ok (.aload_n 0, 1) := by decide +kernel
theorem dX5_plainParts_7 : decode cX5_plainParts 7 = .ok (.getfield 350, 3) := by decide +kernel
theorem dX5_plainParts_10 : decode cX5_plainParts 10 = .ok (.aload_n 0, 1) := by decide +kernel
theorem dX5_plainParts_11 : decode cX5_plainParts 11 = .ok (.getfield 338, 3) := by decide +kernel
theorem dX5_plainParts_14 : decode cX5_plainParts 14 = .ok (.if_icmp .ne 10, 3) := by decide +kernel
theorem dX5_plainParts_17 : decode cX5_plainParts 17 = .ok (.aload_n 0, 1) := by decide +kernel
theorem dX5_plainParts_18 : decode cX5_plainParts 18 = .ok (.iconst 1, 1) := by decide +kernel
theorem dX5_plainParts_19 : decode cX5_plainParts 19 = .ok (.putfield 359, 3) := by decide +kernel
theorem dX5_plainParts_22 : decode cX5_plainParts 22 = .ok (.iconst 0, 1) := by decide +kernel
theorem dX5_plainParts_23 : decode cX5_plainParts 23 = .ok (.ireturn, 1) := by decide +kernel
theorem dX5_plainParts_24 : decode cX5_plainParts 24 = .ok (.iload_n 1, 1) := by decide +kernel
theorem dX5_plainParts_25 : decode cX5_plainParts 25 = .ok (.aload_n 0, 1) := by decide +kernel
theorem dX5_plainParts_26 : decode cX5_plainParts 26 = .ok (.getfield 350, 3) := by decide +kernel
theorem dX5_plainParts_29 : decode cX5_plainParts 29 = .ok (.aload_n 0, 1) := by decide +kernel
theorem dX5_plainParts_30 : decode cX5_plainParts 30 = .ok (.getfield 338, 3) := by decide +kernel
theorem dX5_plainParts_33 : decode cX5_plainParts 33 = .ok (.isub, 1) := by decide +kernel
theorem dX5_plainParts_34 : decode cX5_plainParts 34 = .ok (.idiv, 1) := by decide +kernel
theorem dX5_plainParts_35 : decode cX5_plainParts 35 = .ok (.ireturn, 1) := by decide +kernel
set_option maxRecDepth 20000 in
theorem ggX5_partsIt_X5_ran : GoodIn wsX5_partsIt wsX5_ran := goodIn_r _ [8, 9, 10, 28, 29, 30, 31, 32, 33, 34, 35, 36, 37, 38, 39, 40, 41, 42, 43, 44, 45, 46, 47, 48, 49, 50, 51, 52, 53, 54, 55, 56, 57] (by decide +kernel) (by decide +kernel)
set_option maxRecDepth 20000 in
theorem gX5_partsIt_X5_ran : GoodIn wsX5_partsIt (wsV RX5 335 RX5 yX5_ran wsX5_ran) := goodIn_app (goodIn_of _ (by decide +kernel)) ggX5_partsIt_X5_ran
set_option maxRecDepth 20000 in
theorem ggX5_partsIt_X5_plainParts : GoodIn wsX5_partsIt wsX5_plainParts := goodIn_r _ [14, 15, 2, 3, 4, 5, 6, 7, 8, 9, 10, 28, 29, 30, 31, 32, 33, 34, 35, 36, 37, 38, 39, 40, 41, 42, 43, 44, 45, 46, 47, 48, 49, 50, 51, 52, 53, 54, 55, 56, 57] (by decide +kernel) (by decide +kernel)
set_option maxRecDepth 20000 in
theorem gX5_partsIt_X5_plainParts : GoodIn wsX5_partsIt (wsV RX5 362 RX5 yX5_plainParts wsX5_plainParts) := goodIn_app (goodIn_of _ (by decide +kernel)) ggX5_partsIt_X5_plainParts
set_option maxRecDepth 20000 in
theorem ggX5_partsIt_X5_spraysIt : GoodIn wsX5_partsIt wsX5_spraysIt := goodIn_r _ [19, 1, 15, 20, 21, 22, 7, 23, 4, 5, 6, 8, 9, 10, 24, 25, 26, 27, 2, 28, 29, 30, 31, 32, 33, 34, 35, 36, 37, 38, 39, 40, 41, 42, 43, 44, 45, 46, 47, 48, 49, 50, 51, 52, 53, 54, 55, 56, 57] (by decide +kernel) (by decide +kernel)
set_option maxRecDepth 20000 in
theorem gX5_partsIt_X5_spraysIt : GoodIn wsX5_partsIt (wsV RX5 353 RX5 yX5_spraysIt wsX5_spraysIt) := goodIn_app (goodIn_of _ (by decide +kernel)) ggX5_partsIt_X5_spraysIt
theorem dX5_partsIt_0 : decode cX5_partsIt 0 = .ok (.aload_n 0, 1) := by decide +kernel
theorem dX5_partsIt_1 : decode cX5_partsIt 1 = .ok (.getfield 344, 3) := by decide +kernel
theorem dX5_partsIt_4 : decode cX5_partsIt 4 = .ok (.iconst 3, 1) := by decide +kernel
theorem dX5_partsIt_5 : decode cX5_partsIt 5 = .ok (.if_icmp .ne 22, 3) := by decide +kernel
theorem dX5_partsIt_8 : decode cX5_partsIt 8 = .ok (.aload_n 0, 1) := by decide +kernel
theorem dX5_partsIt_9 : decode cX5_partsIt 9 = .ok (.bipush 50, 2) := by decide +kernel
theorem dX5_partsIt_11 : decode cX5_partsIt 11 = .ok (.invokevirtual 335, 3) := by decide +kernel
theorem dX5_partsIt_14 : decode cX5_partsIt 14 = .ok (.aload_n 0, 1) := by decide +kernel
theorem dX5_partsIt_15 : decode cX5_partsIt 15 = .ok (.iload_n 1, 1) := by decide +kernel
theorem dX5_partsIt_16 : decode cX5_partsIt 16 = .ok (.aload_n 0, 1) := by decide +kernel
theorem dX5_partsIt_17 : decode cX5_partsIt 17 = .ok (.getfield 338, 3) := by decide +kernel
theorem dX5_partsIt_20 : decode cX5_partsIt 20 = .ok (.isub, 1) := by decide +kernel
theorem dX5_partsIt_21 : decode cX5_partsIt 21 = .ok (.invokevirtual 362, 3) := by decide +kernel
theorem dX5_partsIt_24 : decode cX5_partsIt 24 = .ok (.iconst 4, 1) := by decide +kernel
theorem dX5_partsIt_25 : decode cX5_partsIt 25 = .ok (.imul, 1) := by decide +kernel
theorem dX5_partsIt_26 : decode cX5_partsIt 26 = .ok (.ireturn, 1) := by decide +kernel
theorem dX5_partsIt_27 : decode cX5_partsIt 27 = .ok (.aload_n 0, 1) := by decide +kernel
theorem dX5_partsIt_28 : decode cX5_partsIt 28 = .ok (.getfield 344, 3) := by decide +kernel
theorem dX5_partsIt_31 : decode cX5_partsIt 31 = .ok (.iconst 5, 1) := by decide +kernel
theorem dX5_partsIt_32 : decode cX5_partsIt 32 = .ok (.if_icmp .ne 37, 3) := by decide +kernel
theorem dX5_partsIt_35 : decode cX5_partsIt 35 = .ok (.aload_n 0, 1) := by decide +kernel
theorem dX5_partsIt_36 : decode cX5_partsIt 36 = .ok (.bipush 61, 2) := by decide +kernel
theorem dX5_partsIt_38 : decode cX5_partsIt 38 = .ok (.invokevirtual 335, 3) := by decide +kernel
theorem dX5_partsIt_41 : decode cX5_partsIt 41 = .ok (.aload_n 0, 1) := by decide +kernel
theorem dX5_partsIt_42 : decode cX5_partsIt 42 = .ok (.iload_n 1, 1) := by decide +kernel
theorem dX5_partsIt_43 : decode cX5_partsIt 43 = .ok (.invokevirtual 362, 3) := by decide +kernel
theorem dX5_partsIt_46 : decode cX5_partsIt 46 = .ok (.istore_n 2, 1) := by decide +kernel
theorem dX5_partsIt_47 : decode cX5_partsIt 47 = .ok (.aload_n 0, 1) := by decide +kernel
theorem dX5_partsIt_48 : decode cX5_partsIt 48 = .ok (.getfield 359, 3) := by decide +kernel
theorem dX5_partsIt_51 : decode cX5_partsIt 51 = .ok (.ifCond .eq 7, 3) := by decide +kernel
theorem dX5_partsIt_54 : decode cX5_partsIt 54 = .ok (.iconst 0, 1) := by decide +kernel
theorem dX5_partsIt_55 : decode cX5_partsIt 55 = .ok (.goto 13, 3) := by decide +kernel
theorem dX5_partsIt_58 : decode cX5_partsIt 58 = .ok (.iload_n 2, 1) := by decide +kernel
theorem dX5_partsIt_59 : decode cX5_partsIt 59 = .ok (.aload_n 0, 1) := by decide +kernel
theorem dX5_partsIt_60 : decode cX5_partsIt 60 = .ok (.aload_n 0, 1) := by decide +kernel
theorem dX5_partsIt_61 : decode cX5_partsIt 61 = .ok (.getfield 338, 3) := by decide +kernel
theorem dX5_partsIt_64 : decode cX5_partsIt 64 = .ok (.invokevirtual 353, 3) := by decide +kernel
theorem dX5_partsIt_67 : decode cX5_partsIt 67 = .ok (.ixor, 1) := by decide +kernel
theorem dX5_partsIt_68 : decode cX5_partsIt 68 = .ok (.ireturn, 1) := by decide +kernel
theorem dX5_partsIt_69 : decode cX5_partsIt 69 = .ok (.aload_n 0, 1) := by decide +kernel
theorem dX5_partsIt_70 : decode cX5_partsIt 70 = .ok (.iload_n 1, 1) := by decide +kernel
theorem dX5_partsIt_71 : decode cX5_partsIt 71 = .ok (.invokevirtual 362, 3) := by decide +kernel
theorem dX5_partsIt_74 : decode cX5_partsIt 74 = .ok (.ireturn, 1) := by decide +kernel
set_option maxRecDepth 20000 in
theorem ggX5_plainFades_X5_ran : GoodIn wsX5_plainFades wsX5_ran := goodIn_r _ [5, 6, 7, 31, 32, 33, 34, 35, 36, 37, 38, 39, 40, 41, 42, 43, 44, 45, 46, 47, 48, 49, 50, 51, 52, 53, 54, 55, 56, 57, 58, 59, 60] (by decide +kernel) (by decide +kernel)
set_option maxRecDepth 20000 in
theorem gX5_plainFades_X5_ran : GoodIn wsX5_plainFades (wsV RX5 335 RX5 yX5_ran wsX5_ran) := goodIn_app (goodIn_of _ (by decide +kernel)) ggX5_plainFades_X5_ran
set_option maxRecDepth 20000 in
theorem ggX5_plainFades_X5_dripsIt : GoodIn wsX5_plainFades wsX5_dripsIt := goodIn_r _ [11, 12, 13, 1, 2, 3, 4, 5, 6, 7, 14, 15, 16, 17, 18, 19, 20, 21, 22, 23, 24, 25, 26, 27, 28, 29, 30, 31, 32, 33, 34, 35, 36, 37, 38, 39, 40, 41, 42, 43, 44, 45, 46, 47, 48, 49, 50, 51, 52, 53, 54, 55, 56, 57, 58, 59, 60] (by decide +kernel) (by decide +kernel)
set_option maxRecDepth 20000 in
theorem gX5_plainFades_X5_dripsIt : GoodIn wsX5_plainFades (wsV RX5 365 RX5 yX5_dripsIt wsX5_dripsIt) := goodIn_app (goodIn_of _ (by decide +kernel)) ggX5_plainFades_X5_dripsIt
theorem dX5_plainFades_0 : decode cX5_plainFades 0 = .ok (.aload_n 0, 1) := by decide +kernel
theorem dX5_plainFades_1 : decode cX5_plainFades 1 = .ok (.bipush 13, 2) := by decide +kernel
theorem dX5_plainFades_3 : decode cX5_plainFades 3 = .ok (.invokevirtual 335, 3) := by decide +kernel
theorem dX5_plainFades_6 : decode cX5_plainFades 6 = .ok (.aload_n 0, 1) := by decide +kernel
theorem dX5_plainFades_7 : decode cX5_plainFades 7 = .ok (.iload_n 1, 1) := by decide +kernel
theorem dX5_plainFades_8 : decode cX5_plainFades 8 = .ok (.invokevirtual 365, 3) := by decide +kernel
theorem dX5_plainFades_11 : decode cX5_plainFades 11 = .ok (.sipush 190, 3) := by decide +kernel
theorem dX5_plainFades_14 : decode cX5_plainFades 14 = .ok (.ixor, 1) := by decide +kernel
theorem dX5_plainFades_15 : decode cX5_plainFades 15 = .ok (.ireturn, 1) := by decide +kernel
set_option maxRecDepth 20000 in
theorem ggX5_fadesIt_X5_ran : GoodIn wsX5_fadesIt wsX5_ran := goodIn_r _ [7, 8, 9, 44, 45, 46, 47, 48, 49, 50, 51, 52, 53, 54, 55, 56, 57, 58, 59, 60, 61, 62, 63, 64, 65, 66, 67, 68, 69, 70, 71, 72, 73] (by decide +kernel) (by decide +kernel)
set_option maxRecDepth 20000 in
theorem gX5_fadesIt_X5_ran : GoodIn wsX5_fadesIt (wsV RX5 335 RX5 yX5_ran wsX5_ran) := goodIn_app (goodIn_of _ (by decide +kernel)) ggX5_fadesIt_X5_ran
set_option maxRecDepth 20000 in
theorem ggX5_fadesIt_X5_plainFades : GoodIn wsX5_fadesIt wsX5_plainFades := goodIn_r _ [13, 3, 4, 5, 6, 7, 8, 9, 14, 15, 16, 17, 1, 18, 19, 20, 21, 22, 23, 24, 25, 26, 27, 28, 29, 30, 31, 32, 33, 34, 2, 44, 45, 46, 47, 48, 49, 50, 51, 52, 53, 54, 55, 56, 57, 58, 59, 60, 61, 62, 63, 64, 65, 66, 67, 68, 69, 70, 71, 72, 73] (by decide +kernel) (by decide +kernel)
set_option maxRecDepth 20000 in
theorem gX5_fadesIt_X5_plainFades : GoodIn wsX5_fadesIt (wsV RX5 368 RX5 yX5_plainFades wsX5_plainFades) := goodIn_app (goodIn_of _ (by decide +kernel)) ggX5_fadesIt_X5_plainFades
set_option maxRecDepth 20000 in
theorem ggX5_fadesIt_X5_partsIt : GoodIn wsX5_fadesIt wsX5_partsIt := goodIn_r _ [38, 1, 2, 39, 3, 4, 5, 6, 7, 8, 9, 40, 41, 42, 43, 18, 23, 24, 25, 26, 27, 28, 29, 30, 31, 32, 33, 34, 44, 45, 46, 47, 48, 49, 50, 51, 52, 53, 54, 55, 56, 57, 58, 59, 60, 61, 62, 63, 64, 65, 66, 67, 68, 69, 70, 71, 72, 73] (by decide +kernel) (by decide +kernel)
set_option maxRecDepth 20000 in
theorem gX5_fadesIt_X5_partsIt : GoodIn wsX5_fadesIt (wsV RX5 371 RX5 yX5_partsIt wsX5_partsIt) := goodIn_app (goodIn_of _ (by decide +kernel)) ggX5_fadesIt_X5_partsIt
theorem dX5_fadesIt_0 : decode cX5_fadesIt 0 = .ok (.aload_n 0, 1) := by decide +kernel
theorem dX5_fadesIt_1 : decode cX5_fadesIt 1 = .ok (.getfield 344, 3) := by decide +kernel
theorem dX5_fadesIt_4 : decode cX5_fadesIt 4 = .ok (.iconst 2, 1) := by decide +kernel
theorem dX5_fadesIt_5 : decode cX5_fadesIt 5 = .ok (.if_icmp .eq 11, 3) := by decide +kernel
theorem dX5_fadesIt_8 : decode cX5_fadesIt 8 = .ok (.aload_n 0, 1) := by decide +kernel
theorem dX5_fadesIt_9 : decode cX5_fadesIt 9 = .ok (.getfield 344, 3) := by decide +kernel
theorem dX5_fadesIt_12 : decode cX5_fadesIt 12 = .ok (.iconst 4, 1) := by decide +kernel
theorem dX5_fadesIt_13 : decode cX5_fadesIt 13 = .ok (.if_icmp .ne 26, 3) := by decide +kernel
theorem dX5_fadesIt_16 : decode cX5_fadesIt 16 = .ok (.aload_n 0, 1) := by decide +kernel
theorem dX5_fadesIt_17 : decode cX5_fadesIt 17 = .ok (.bipush 31, 2) := by decide +kernel
theorem dX5_fadesIt_19 : decode cX5_fadesIt 19 = .ok (.invokevirtual 335, 3) := by decide +kernel
theorem dX5_fadesIt_22 : decode cX5_fadesIt 22 = .ok (.aload_n 0, 1) := by decide +kernel
theorem dX5_fadesIt_23 : decode cX5_fadesIt 23 = .ok (.iload_n 1, 1) := by decide +kernel
theorem dX5_fadesIt_24 : decode cX5_fadesIt 24 = .ok (.invokevirtual 368, 3) := by decide +kernel
theorem dX5_fadesIt_27 : decode cX5_fadesIt 27 = .ok (.istore_n 2, 1) := by decide +kernel
theorem dX5_fadesIt_28 : decode cX5_fadesIt 28 = .ok (.iload_n 2, 1) := by decide +kernel
theorem dX5_fadesIt_29 : decode cX5_fadesIt 29 = .ok (.aload_n 0, 1) := by decide +kernel
theorem dX5_fadesIt_30 : decode cX5_fadesIt 30 = .ok (.aload_n 0, 1) := by decide +kernel
theorem dX5_fadesIt_31 : decode cX5_fadesIt 31 = .ok (.getfield 338, 3) := by decide +kernel
theorem dX5_fadesIt_34 : decode cX5_fadesIt 34 = .ok (.invokevirtual 371, 3) := by decide +kernel
theorem dX5_fadesIt_37 : decode cX5_fadesIt 37 = .ok (.isub, 1) := by decide +kernel
theorem dX5_fadesIt_38 : decode cX5_fadesIt 38 = .ok (.ireturn, 1) := by decide +kernel
theorem dX5_fadesIt_39 : decode cX5_fadesIt 39 = .ok (.aload_n 0, 1) := by decide +kernel
theorem dX5_fadesIt_40 : decode cX5_fadesIt 40 = .ok (.getfield 344, 3) := by decide +kernel
theorem dX5_fadesIt_43 : decode cX5_fadesIt 43 = .ok (.iconst 5, 1) := by decide +kernel
theorem dX5_fadesIt_44 : decode cX5_fadesIt 44 = .ok (.if_icmp .ne 17, 3) := by decide +kernel
theorem dX5_fadesIt_47 : decode cX5_fadesIt 47 = .ok (.aload_n 0, 1) := by decide +kernel
theorem dX5_fadesIt_48 : decode cX5_fadesIt 48 = .ok (.bipush 60, 2) := by decide +kernel
theorem dX5_fadesIt_50 : decode cX5_fadesIt 50 = .ok (.invokevirtual 335, 3) := by decide +kernel
theorem dX5_fadesIt_53 : decode cX5_fadesIt 53 = .ok (.iconst 3, 1) := by decide +kernel
theorem dX5_fadesIt_54 : decode cX5_fadesIt 54 = .ok (.aload_n 0, 1) := by decide +kernel
theorem dX5_fadesIt_55 : decode cX5_fadesIt 55 = .ok (.iload_n 1, 1) := by decide +kernel
theorem dX5_fadesIt_56 : decode cX5_fadesIt 56 = .ok (.invokevirtual 368, 3) := by decide +kernel
theorem dX5_fadesIt_59 : decode cX5_fadesIt 59 = .ok (.isub, 1) := by decide +kernel
theorem dX5_fadesIt_60 : decode cX5_fadesIt 60 = .ok (.ireturn, 1) := by decide +kernel
theorem dX5_fadesIt_61 : decode cX5_fadesIt 61 = .ok (.aload_n 0, 1) := by decide +kernel
theorem dX5_fadesIt_62 : decode cX5_fadesIt 62 = .ok (.iload_n 1, 1) := by decide +kernel
theorem dX5_fadesIt_63 : decode cX5_fadesIt 63 = .ok (.invokevirtual 368, 3) := by decide +kernel
theorem dX5_fadesIt_66 : decode cX5_fadesIt 66 = .ok (.ireturn, 1) := by decide +kernel
set_option maxRecDepth 20000 in
theorem ggX5_act_X5_isShelf : GoodIn wsX5_act wsX5_isShelf := goodIn_r _ [10, 11, 12, 9, 13] (by decide +kernel) (by decide +kernel)
set_option maxRecDepth 20000 in
theorem gX5_act_X5_isShelf : GoodIn wsX5_act (va_wsS RX5 297 yX5_isShelf wsX5_isShelf) := goodIn_app (goodIn_of _ (by decide +kernel)) ggX5_act_X5_isShelf
set_option maxRecDepth 20000 in
theorem ggX5_act_X5_kindOn : GoodIn wsX5_act wsX5_kindOn := goodIn_r _ [17, 18, 3, 19, 20, 21, 9, 22, 23, 11, 12, 13, 24, 25, 26, 27, 69, 70, 71, 72, 73, 74, 75, 76, 77, 78, 79, 80, 81, 82, 83, 84, 85, 86, 87, 88, 89, 90, 91, 92, 93, 94, 95, 96, 97, 98] (by decide +kernel) (by decide +kernel)
set_option maxRecDepth 20000 in
theorem gX5_act_X5_kindOn : GoodIn wsX5_act (wsV RX5 326 RX5 yX5_kindOn wsX5_kindOn) := goodIn_app (goodIn_of _ (by decide +kernel)) ggX5_act_X5_kindOn
set_option maxRecDepth 20000 in
theorem ggX5_act_X5_in : GoodIn wsX5_act wsX5_in := goodIn_r _ [13] (by decide +kernel) (by decide +kernel)
set_option maxRecDepth 20000 in
theorem gX5_act_X5_in : GoodIn wsX5_act (va_wsS RX5 60 yX5_in wsX5_in) := goodIn_app (goodIn_of _ (by decide +kernel)) ggX5_act_X5_in
set_option maxRecDepth 20000 in
theorem ggX5_act_X5_its : GoodIn wsX5_act wsX5_its := goodIn_r _ [27, 23, 69, 70, 71, 72, 73, 74, 75, 76, 77, 78, 79, 80, 81, 82, 83, 84, 85, 86, 87, 88, 89, 90, 91, 92, 93, 94, 95, 96, 97, 98] (by decide +kernel) (by decide +kernel)
set_option maxRecDepth 20000 in
theorem gX5_act_X5_its : GoodIn wsX5_act (wsV RX5 210 RX5 yX5_its wsX5_its) := goodIn_app (goodIn_of _ (by decide +kernel)) ggX5_act_X5_its
set_option maxRecDepth 20000 in
theorem ggX5_act_X5_spraysIt : GoodIn wsX5_act wsX5_spraysIt := goodIn_r _ [31, 2, 5, 32, 33, 34, 9, 35, 36, 37, 38, 39, 1, 40, 41, 42, 43, 44, 4, 69, 70, 71, 72, 73, 74, 75, 76, 77, 78, 79, 80, 81, 82, 83, 84, 85, 86, 87, 88, 89, 90, 91, 92, 93, 94, 95, 96, 97, 98] (by decide +kernel) (by decide +kernel)
set_option maxRecDepth 20000 in
theorem gX5_act_X5_spraysIt : GoodIn wsX5_act (wsV RX5 353 RX5 yX5_spraysIt wsX5_spraysIt) := goodIn_app (goodIn_of _ (by decide +kernel)) ggX5_act_X5_spraysIt
set_option maxRecDepth 20000 in
theorem ggX5_act_X5_dripsIt : GoodIn wsX5_act wsX5_dripsIt := goodIn_r _ [48, 2, 5, 36, 37, 38, 9, 39, 1, 40, 49, 50, 51, 52, 28, 29, 30, 31, 32, 33, 34, 35, 41, 42, 43, 44, 4, 69, 70, 71, 72, 73, 74, 75, 76, 77, 78, 79, 80, 81, 82, 83, 84, 85, 86, 87, 88, 89, 90, 91, 92, 93, 94, 95, 96, 97, 98] (by decide +kernel) (by decide +kernel)
set_option maxRecDepth 20000 in
theorem gX5_act_X5_dripsIt : GoodIn wsX5_act (wsV RX5 365 RX5 yX5_dripsIt wsX5_dripsIt) := goodIn_app (goodIn_of _ (by decide +kernel)) ggX5_act_X5_dripsIt
set_option maxRecDepth 20000 in
theorem ggX5_act_X5_partsIt : GoodIn wsX5_act wsX5_partsIt := goodIn_r _ [56, 2, 4, 6, 36, 37, 38, 9, 39, 1, 40, 57, 58, 59, 60, 5, 28, 29, 30, 31, 32, 33, 34, 35, 41, 42, 43, 44, 69, 70, 71, 72, 73, 74, 75, 76, 77, 78, 79, 80, 81, 82, 83, 84, 85, 86, 87, 88, 89, 90, 91, 92, 93, 94, 95, 96, 97, 98] (by decide +kernel) (by decide +kernel)
set_option maxRecDepth 20000 in
theorem gX5_act_X5_partsIt : GoodIn wsX5_act (wsV RX5 371 RX5 yX5_partsIt wsX5_partsIt) := goodIn_app (goodIn_of _ (by decide +kernel)) ggX5_act_X5_partsIt
set_option maxRecDepth 20000 in
theorem ggX5_act_X5_fadesIt : GoodIn wsX5_act wsX5_fadesIt := goodIn_r _ [64, 2, 4, 36, 37, 38, 9, 39, 1, 40, 65, 66, 67, 68, 45, 46, 47, 48, 5, 49, 50, 51, 52, 28, 29, 30, 31, 32, 33, 34, 35, 41, 42, 43, 44, 53, 54, 55, 56, 6, 57, 58, 59, 60, 69, 70, 71, 72, 73, 74, 75, 76, 77, 78, 79, 80, 81, 82, 83, 84, 85, 86, 87, 88, 89, 90, 91, 92, 93, 94, 95, 96, 97, 98] (by decide +kernel) (by decide +kernel)
set_option maxRecDepth 20000 in
theorem gX5_act_X5_fadesIt : GoodIn wsX5_act (wsV RX5 374 RX5 yX5_fadesIt wsX5_fadesIt) := goodIn_app (goodIn_of _ (by decide +kernel)) ggX5_act_X5_fadesIt
theorem dX5_act_0 : decode cX5_act 0 = .ok (.aload_n 0, 1) := by decide +kernel
theorem dX5_act_1 : decode cX5_act 1 = .ok (.iconst 0, 1) := by decide +kernel
theorem dX5_act_2 : decode cX5_act 2 = .ok (.putfield 332, 3) := by decide +kernel
theorem dX5_act_5 : decode cX5_act 5 = .ok (.iload_n 1, 1) := by decide +kernel
theorem dX5_act_6 : decode cX5_act 6 = .ok (.invokestatic 297, 3) := by decide +kernel
theorem dX5_act_9 : decode cX5_act 9 = .ok (.ifCond .eq 11, 3) := by decide +kernel
theorem dX5_act_12 : decode cX5_act 12 = .ok (.aload_n 0, 1) := by decide +kernel
theorem dX5_act_13 : decode cX5_act 13 = .ok (.iload_n 1, 1) := by decide +kernel
theorem dX5_act_14 : decode cX5_act 14 = .ok (.invokevirtual 326, 3) := by decide +kernel
theorem dX5_act_17 : decode cX5_act 17 = .ok (.goto 4, 3) := by decide +kernel
theorem dX5_act_20 : decode cX5_act 20 = .ok (.iconst (-1), 1) := by decide +kernel
theorem dX5_act_21 : decode cX5_act 21 = .ok (.istore 4, 2) := by decide +kernel
theorem dX5_act_23 : decode cX5_act 23 = .ok (.iload_n 2, 1) := by decide +kernel
theorem dX5_act_24 : decode cX5_act 24 = .ok (.iconst 0, 1) := by decide +kernel
theorem dX5_act_25 : decode cX5_act 25 = .ok (.iconst 3, 1) := by decide +kernel
theorem dX5_act_26 : decode cX5_act 26 = .ok (.invokestatic 60, 3) := by decide +kernel
theorem dX5_act_29 : decode cX5_act 29 = .ok (.ifCond .eq 13, 3) := by decide +kernel
theorem dX5_act_32 : decode cX5_act 32 = .ok (.iload 4, 2) := by decide +kernel
theorem dX5_act_34 : decode cX5_act 34 = .ok (.iconst 0, 1) := by decide +kernel
theorem dX5_act_35 : decode cX5_act 35 = .ok (.iconst 5, 1) := by decide +kernel
theorem dX5_act_36 : decode cX5_act 36 = .ok (.invokestatic 60, 3) := by decide +kernel
theorem dX5_act_39 : decode cX5_act 39 = .ok (.ifCond .ne 5, 3) := by decide +kernel
theorem dX5_act_42 : decode cX5_act 42 = .ok (.iconst 0, 1) := by decide +kernel
theorem dX5_act_43 : decode cX5_act 43 = .ok (.ireturn, 1) := by decide +kernel
theorem dX5_act_44 : decode cX5_act 44 = .ok (.aload_n 0, 1) := by decide +kernel
theorem dX5_act_45 : decode cX5_act 45 = .ok (.iload 4, 2) := by decide +kernel
theorem dX5_act_47 : decode cX5_act 47 = .ok (.putfield 344, 3) := by decide +kernel
theorem dX5_act_50 : decode cX5_act 50 = .ok (.aload_n 0, 1) := by decide +kernel
theorem dX5_act_51 : decode cX5_act 51 = .ok (.aload_n 0, 1) := by decide +kernel
theorem dX5_act_52 : decode cX5_act 52 = .ok (.getfield 47, 3) := by decide +kernel
theorem dX5_act_55 : decode cX5_act 55 = .ok (.iload_n 1, 1) := by decide +kernel
theorem dX5_act_56 : decode cX5_act 56 = .ok (.iaload, 1) := by decide +kernel
theorem dX5_act_57 : decode cX5_act 57 = .ok (.putfield 338, 3) := by decide +kernel
theorem dX5_act_60 : decode cX5_act 60 = .ok (.aload_n 0, 1) := by decide +kernel
theorem dX5_act_61 : decode cX5_act 61 = .ok (.aload_n 0, 1) := by decide +kernel
theorem dX5_act_62 : decode cX5_act 62 = .ok (.aload_n 0, 1) := by decide +kernel
theorem dX5_act_63 : decode cX5_act 63 = .ok (.getfield 338, 3) := by decide +kernel
theorem dX5_act_66 : decode cX5_act 66 = .ok (.iconst 1, 1) := by decide +kernel
theorem dX5_act_67 : decode cX5_act 67 = .ok (.invokevirtual 210, 3) := by decide +kernel
theorem dX5_act_70 : decode cX5_act 70 = .ok (.putfield 350, 3) := by decide +kernel
theorem dX5_act_73 : decode cX5_act 73 = .ok (.aload_n 0, 1) := by decide +kernel
theorem dX5_act_74 : decode cX5_act 74 = .ok (.iconst 0, 1) := by decide +kernel
theorem dX5_act_75 : decode cX5_act 75 = .ok (.putfield 359, 3) := by decide +kernel
theorem dX5_act_78 : decode cX5_act 78 = .ok (.iload_n 2, 1) := by decide +kernel
theorem dX5_act_79 : decode cX5_act 79 = .ok (.ifCond .ne 11, 3) := by decide +kernel
theorem dX5_act_82 : decode cX5_act 82 = .ok (.aload_n 0, 1) := by decide +kernel
theorem dX5_act_83 : decode cX5_act 83 = .ok (.iload_n 3, 1) := by decide +kernel
theorem dX5_act_84 : decode cX5_act 84 = .ok (.invokevirtual 353, 3) := by decide +kernel
theorem dX5_act_87 : decode cX5_act 87 = .ok (.goto 34, 3) := by decide +kernel
theorem dX5_act_90 : decode cX5_act 90 = .ok (.iload_n 2, 1) := by decide +kernel
theorem dX5_act_91 : decode cX5_act 91 = .ok (.iconst 1, 1) := by decide +kernel
theorem dX5_act_92 : decode cX5_act 92 = .ok (.if_icmp .ne 11, 3) := by decide +kernel
theorem dX5_act_95 : decode cX5_act 95 = .ok (.aload_n 0, 1) := by decide +kernel
theorem dX5_act_96 : decode cX5_act 96 = .ok (.iload_n 3, 1) := by decide +kernel
theorem dX5_act_97 : decode cX5_act 97 = .ok (.invokevirtual 365, 3) := by decide +kernel
theorem dX5_act_100 : decode cX5_act 100 = .ok (.goto 21, 3) := by decide +kernel
theorem dX5_act_103 : decode cX5_act 103 = .ok (.iload_n 2, 1) := by decide +kernel
theorem dX5_act_104 : decode cX5_act 104 = .ok (.iconst 2, 1) := by decide +kernel
theorem dX5_act_105 : decode cX5_act 105 = .ok (.if_icmp .ne 11, 3) := by decide +kernel
theorem dX5_act_108 : decode cX5_act 108 = .ok (.aload_n 0, 1) := by decide +kernel
theorem dX5_act_109 : decode cX5_act 109 = .ok (.iload_n 3, 1) := by decide +kernel
theorem dX5_act_110 : decode cX5_act 110 = .ok (.invokevirtual 371, 3) := by decide +kernel
theorem dX5_act_113 : decode cX5_act 113 = .ok (.goto 8, 3) := by decide +kernel
theorem dX5_act_116 : decode cX5_act 116 = .ok (.aload_n 0, 1) := by decide +kernel
theorem dX5_act_117 : decode cX5_act 117 = .ok (.iload_n 3, 1) := by decide +kernel
theorem dX5_act_118 : decode cX5_act 118 = .ok (.invokevirtual 374, 3) := by decide +kernel
theorem dX5_act_121 : decode cX5_act 121 = .ok (.istore 5, 2) := by decide +kernel
theorem dX5_act_123 : decode cX5_act 123 = .ok (.aload_n 0, 1) := by decide +kernel
theorem dX5_act_124 : decode cX5_act 124 = .ok (.getfield 359, 3) := by decide +kernel
theorem dX5_act_127 : decode cX5_act 127 = .ok (.ifCond .eq 8, 3) := by decide +kernel
theorem dX5_act_130 : decode cX5_act 130 = .ok (.bipush (-15), 2) := by decide +kernel
theorem dX5_act_132 : decode cX5_act 132 = .ok (.goto 5, 3) := by decide +kernel
theorem dX5_act_135 : decode cX5_act 135 = .ok (.iload 5, 2) := by decide +kernel
theorem dX5_act_137 : decode cX5_act 137 = .ok (.ireturn, 1) := by decide +kernel
set_option maxRecDepth 20000 in
theorem ggX5_trace_X5_in : GoodIn wsX5_trace wsX5_in := goodIn_r _ [6] (by decide +kernel) (by decide +kernel)
set_option maxRecDepth 20000 in
theorem gX5_trace_X5_in : GoodIn wsX5_trace (va_wsS RX5 60 yX5_in wsX5_in) := goodIn_app (goodIn_of _ (by decide +kernel)) ggX5_trace_X5_in
theorem dX5_trace_0 : decode cX5_trace 0 = .ok (.iload_n 1, 1) := by decide +kernel
theorem dX5_trace_1 : decode cX5_trace 1 = .ok (.iconst 0, 1) := by decide +kernel
theorem dX5_trace_2 : decode cX5_trace 2 = .ok (.aload_n 0, 1) := by decide +kernel
theorem dX5_trace_3 : decode cX5_trace 3 = .ok (.getfield 332, 3) := by decide +kernel
theorem dX5_trace_6 : decode cX5_trace 6 = .ok (.iconst 1, 1) := by decide +kernel
theorem dX5_trace_7 : decode cX5_trace 7 = .ok (.isub, 1) := by decide +kernel
theorem dX5_trace_8 : decode cX5_trace 8 = .ok (.invokestatic 60, 3) := by decide +kernel
theorem dX5_trace_11 : decode cX5_trace 11 = .ok (.ifCond .eq 12, 3) := by decide +kernel
theorem dX5_trace_14 : decode cX5_trace 14 = .ok (.aload_n 0, 1) := by decide +kernel
theorem dX5_trace_15 : decode cX5_trace 15 = .ok (.getfield 53, 3) := by decide +kernel
theorem dX5_trace_18 : decode cX5_trace 18 = .ok (.iload_n 1, 1) := by decide +kernel
theorem dX5_trace_19 : decode cX5_trace 19 = .ok (.iaload, 1) := by decide +kernel
theorem dX5_trace_20 : decode cX5_trace 20 = .ok (.goto 5, 3) := by decide +kernel
theorem dX5_trace_23 : decode cX5_trace 23 = .ok (.bipush (-3), 2) := by decide +kernel
theorem dX5_trace_25 : decode cX5_trace 25 = .ok (.ireturn, 1) := by decide +kernel
set_option maxRecDepth 20000 in
theorem ggX5_seenWalls_X5_looks : GoodIn wsX5_seenWalls wsX5_looks := goodIn_r _ [5, 6, 7, 8, 9, 4, 10, 11, 12, 13, 14, 15, 16, 17, 18, 19, 20, 21, 22, 23, 24, 25, 26, 27, 28, 29, 30, 31, 32, 33, 34, 35, 36, 37, 38, 39, 40] (by decide +kernel) (by decide +kernel)
set_option maxRecDepth 20000 in
theorem gX5_seenWalls_X5_looks : GoodIn wsX5_seenWalls (wsV RX5 236 RX5 yX5_looks wsX5_looks) := goodIn_app (goodIn_of _ (by decide +kernel)) ggX5_seenWalls_X5_looks
theorem dX5_seenWalls_0 : decode cX5_seenWalls 0 = .ok (.iconst 0, 1) := by decide +kernel
theorem dX5_seenWalls_1 : decode cX5_seenWalls 1 = .ok (.istore_n 1, 1) := by decide +kernel
theorem dX5_seenWalls_2 : decode cX5_seenWalls 2 = .ok (.iconst 0, 1) := by decide +kernel
theorem dX5_seenWalls_3 : decode cX5_seenWalls 3 = .ok (.istore_n 2, 1) := by decide +kernel
theorem dX5_seenWalls_4 : decode cX5_seenWalls 4 = .ok (.iload_n 2, 1) := by decide +kernel
theorem dX5_seenWalls_5 : decode cX5_seenWalls 5 = .ok (.bipush 10, 2) := by decide +kernel
theorem dX5_seenWalls_7 : decode cX5_seenWalls 7 = .ok (.if_icmp .ge 25, 3) := by decide +kernel
theorem dX5_seenWalls_10 : decode cX5_seenWalls 10 = .ok (.iload_n 1, 1) := by decide +kernel
theorem dX5_seenWalls_11 : decode cX5_seenWalls 11 = .ok (.aload_n 0, 1) := by decide +kernel
theorem dX5_seenWalls_12 : decode cX5_seenWalls 12 = .ok (.iload_n 2, 1) := by decide +kernel
theorem dX5_seenWalls_13 : decode cX5_seenWalls 13 = .ok (.invokevirtual 236, 3) := by decide +kernel
theorem dX5_seenWalls_16 : decode cX5_seenWalls 16 = .ok (.ifCond .le 7, 3) := by decide +kernel
theorem dX5_seenWalls_19 : decode cX5_seenWalls 19 = .ok (.iconst 1, 1) := by decide +kernel
theorem dX5_seenWalls_20 : decode cX5_seenWalls 20 = .ok (.goto 4, 3) := by decide +kernel
theorem dX5_seenWalls_23 : decode cX5_seenWalls 23 = .ok (.iconst 0, 1) := by decide +kernel
theorem dX5_seenWalls_24 : decode cX5_seenWalls 24 = .ok (.iadd, 1) := by decide +kernel
theorem dX5_seenWalls_25 : decode cX5_seenWalls 25 = .ok (.istore_n 1, 1) := by decide +kernel
theorem dX5_seenWalls_26 : decode cX5_seenWalls 26 = .ok (.iinc 2 1, 3) := by decide +kernel
theorem dX5_seenWalls_29 : decode cX5_seenWalls 29 = .ok (.goto (-25), 3) := by decide +kernel
theorem dX5_seenWalls_32 : decode cX5_seenWalls 32 = .ok (.iload_n 1, 1) := by decide +kernel
theorem dX5_seenWalls_33 : decode cX5_seenWalls 33 = .ok (.ireturn, 1) := by decide +kernel
set_option maxRecDepth 20000 in
theorem ggX5_many_X5_goneSet : GoodIn wsX5_many wsX5_goneSet := goodIn_r _ [9, 10, 11, 12, 8, 13, 1, 14, 15, 16, 17, 33, 34, 35, 36, 37, 38, 39, 40, 41, 42, 43, 44, 45, 46, 47, 48, 49, 50, 51, 52, 53, 54, 55, 56, 57, 58, 59, 60, 61, 62] (by decide +kernel) (by decide +kernel)
set_option maxRecDepth 20000 in
theorem gX5_many_X5_goneSet : GoodIn wsX5_many (wsV RX5 272 RX5 yX5_goneSet wsX5_goneSet) := goodIn_app (goodIn_of _ (by decide +kernel)) ggX5_many_X5_goneSet
set_option maxRecDepth 20000 in
theorem ggX5_many_X5_ones : GoodIn wsX5_many wsX5_ones := goodIn_r _ [20] (by decide +kernel) (by decide +kernel)
set_option maxRecDepth 20000 in
theorem gX5_many_X5_ones : GoodIn wsX5_many (va_wsS RX5 216 yX5_ones wsX5_ones) := goodIn_app (goodIn_of _ (by decide +kernel)) ggX5_many_X5_ones
set_option maxRecDepth 20000 in
theorem ggX5_many_X5_seenWalls : GoodIn wsX5_many wsX5_seenWalls := goodIn_r _ [24, 25, 26, 27, 8, 28, 1, 14, 15, 16, 17, 33, 34, 35, 36, 37, 38, 39, 40, 41, 42, 43, 44, 45, 46, 47, 48, 49, 50, 51, 52, 53, 54, 55, 56, 57, 58, 59, 60, 61, 62] (by decide +kernel) (by decide +kernel)
set_option maxRecDepth 20000 in
theorem gX5_many_X5_seenWalls : GoodIn wsX5_many (wsV RX5 377 RX5 yX5_seenWalls wsX5_seenWalls) := goodIn_app (goodIn_of _ (by decide +kernel)) ggX5_many_X5_seenWalls
set_option maxRecDepth 20000 in
theorem ggX5_many_X5_handsOfAll : GoodIn wsX5_many wsX5_handsOfAll := goodIn_r _ [32, 1, 14, 15, 16, 8, 17, 18, 19, 20, 33, 34, 35, 36, 37, 38, 39, 40, 41, 42, 43, 44, 45, 46, 47, 48, 49, 50, 51, 52, 53, 54, 55, 56, 57, 58, 59, 60, 61, 62] (by decide +kernel) (by decide +kernel)
set_option maxRecDepth 20000 in
theorem gX5_many_X5_handsOfAll : GoodIn wsX5_many (wsV RX5 291 RX5 yX5_handsOfAll wsX5_handsOfAll) := goodIn_app (goodIn_of _ (by decide +kernel)) ggX5_many_X5_handsOfAll
theorem dX5_many_0 : decode cX5_many 0 = .ok (.iload_n 1, 1) := by decide +kernel
theorem dX5_many_1 : decode cX5_many 1 = .ok (.tableswitch 84 0 6 #[43, 51, 59, 64, 69, 74, 79], 43) := by decide +kernel
theorem dX5_many_44 : decode cX5_many 44 = .ok (.aload_n 0, 1) := by decide +kernel
theorem dX5_many_45 : decode cX5_many 45 = .ok (.getfield 7, 3) := by decide +kernel
theorem dX5_many_48 : decode cX5_many 48 = .ok (.bipush 6, 2) := by decide +kernel
theorem dX5_many_50 : decode cX5_many 50 = .ok (.iaload, 1) := by decide +kernel
theorem dX5_many_51 : decode cX5_many 51 = .ok (.ireturn, 1) := by decide +kernel
theorem dX5_many_52 : decode cX5_many 52 = .ok (.aload_n 0, 1) := by decide +kernel
theorem dX5_many_53 : decode cX5_many 53 = .ok (.invokevirtual 272, 3) := by decide +kernel
theorem dX5_many_56 : decode cX5_many 56 = .ok (.invokestatic 216, 3) := by decide +kernel
theorem dX5_many_59 : decode cX5_many 59 = .ok (.ireturn, 1) := by decide +kernel
theorem dX5_many_60 : decode cX5_many 60 = .ok (.aload_n 0, 1) := by decide +kernel
theorem dX5_many_61 : decode cX5_many 61 = .ok (.invokevirtual 377, 3) := by decide +kernel
theorem dX5_many_64 : decode cX5_many 64 = .ok (.ireturn, 1) := by decide +kernel
theorem dX5_many_65 : decode cX5_many 65 = .ok (.aload_n 0, 1) := by decide +kernel
theorem dX5_many_66 : decode cX5_many 66 = .ok (.invokevirtual 291, 3) := by decide +kernel
theorem dX5_many_69 : decode cX5_many 69 = .ok (.ireturn, 1) := by decide +kernel
theorem dX5_many_70 : decode cX5_many 70 = .ok (.aload_n 0, 1) := by decide +kernel
theorem dX5_many_71 : decode cX5_many 71 = .ok (.getfield 190, 3) := by decide +kernel
theorem dX5_many_74 : decode cX5_many 74 = .ok (.ireturn, 1) := by decide +kernel
theorem dX5_many_75 : decode cX5_many 75 = .ok (.aload_n 0, 1) := by decide +kernel
theorem dX5_many_76 : decode cX5_many 76 = .ok (.getfield 64, 3) := by decide +kernel
theorem dX5_many_79 : decode cX5_many 79 = .ok (.ireturn, 1) := by decide +kernel
theorem dX5_many_80 : decode cX5_many 80 = .ok (.aload_n 0, 1) := by decide +kernel
theorem dX5_many_81 : decode cX5_many 81 = .ok (.getfield 332, 3) := by decide +kernel
theorem dX5_many_84 : decode cX5_many 84 = .ok (.ireturn, 1) := by decide +kernel
theorem dX5_many_85 : decode cX5_many 85 = .ok (.iconst (-1), 1) := by decide +kernel
theorem dX5_many_86 : decode cX5_many 86 = .ok (.ireturn, 1) := by decide +kernel
set_option maxRecDepth 20000 in
theorem ggX5_keep_X5_moveAll : GoodIn wsX5_keep wsX5_moveAll := goodIn_r _ [7] (by decide +kernel) (by decide +kernel)
set_option maxRecDepth 20000 in
theorem gX5_keep_X5_moveAll : GoodIn wsX5_keep (va_wsS RX5 186 yX5_moveAll wsX5_moveAll) := goodIn_app (goodIn_of _ (by decide +kernel)) ggX5_keep_X5_moveAll
theorem dX5_keep_0 : decode cX5_keep 0 = .ok (.aload_n 0, 1) := by decide +kernel
theorem dX5_keep_1 : decode cX5_keep 1 = .ok (.getfield 7, 3) := by decide +kernel
theorem dX5_keep_4 : decode cX5_keep 4 = .ok (.aload_n 0, 1) := by decide +kernel
theorem dX5_keep_5 : decode cX5_keep 5 = .ok (.getfield 16, 3) := by decide +kernel
theorem dX5_keep_8 : decode cX5_keep 8 = .ok (.invokestatic 186, 3) := by decide +kernel
theorem dX5_keep_11 : decode cX5_keep 11 = .ok (.aload_n 0, 1) := by decide +kernel
theorem dX5_keep_12 : decode cX5_keep 12 = .ok (.iconst 1, 1) := by decide +kernel
theorem dX5_keep_13 : decode cX5_keep 13 = .ok (.putfield 380, 3) := by decide +kernel
theorem dX5_keep_16 : decode cX5_keep 16 = .ok (.iconst 1, 1) := by decide +kernel
theorem dX5_keep_17 : decode cX5_keep 17 = .ok (.ireturn, 1) := by decide +kernel
set_option maxRecDepth 20000 in
theorem ggX5_again_X5_moveAll : GoodIn wsX5_again wsX5_moveAll := goodIn_r _ [7] (by decide +kernel) (by decide +kernel)
set_option maxRecDepth 20000 in
theorem gX5_again_X5_moveAll : GoodIn wsX5_again (va_wsS RX5 186 yX5_moveAll wsX5_moveAll) := goodIn_app (goodIn_of _ (by decide +kernel)) ggX5_again_X5_moveAll
theorem dX5_again_0 : decode cX5_again 0 = .ok (.aload_n 0, 1) := by decide +kernel
theorem dX5_again_1 : decode cX5_again 1 = .ok (.getfield 380, 3) := by decide +kernel
theorem dX5_again_4 : decode cX5_again 4 = .ok (.ifCond .ne 6, 3) := by decide +kernel
theorem dX5_again_7 : decode cX5_again 7 = .ok (.bipush (-3), 2) := by decide +kernel
theorem dX5_again_9 : decode cX5_again 9 = .ok (.ireturn, 1) := by decide +kernel
theorem dX5_again_10 : decode cX5_again 10 = .ok (.aload_n 0, 1) := by decide +kernel
theorem dX5_again_11 : decode cX5_again 11 = .ok (.getfield 16, 3) := by decide +kernel
theorem dX5_again_14 : decode cX5_again 14 = .ok (.aload_n 0, 1) := by decide +kernel
theorem dX5_again_15 : decode cX5_again 15 = .ok (.getfield 7, 3) := by decide +kernel
theorem dX5_again_18 : decode cX5_again 18 = .ok (.invokestatic 186, 3) := by decide +kernel
theorem dX5_again_21 : decode cX5_again 21 = .ok (.aload_n 0, 1) := by decide +kernel
theorem dX5_again_22 : decode cX5_again 22 = .ok (.getfield 7, 3) := by decide +kernel
theorem dX5_again_25 : decode cX5_again 25 = .ok (.bipush 6, 2) := by decide +kernel
theorem dX5_again_27 : decode cX5_again 27 = .ok (.iaload, 1) := by decide +kernel
theorem dX5_again_28 : decode cX5_again 28 = .ok (.ireturn, 1) := by decide +kernel
theorem dJ6_bitCount_0f7a4_0 : decode cJ6_bitCount_0f7a4 0 = .ok (.iload_n 0, 1) := by decide +kernel
theorem dJ6_bitCount_0f7a4_1 : decode cJ6_bitCount_0f7a4 1 = .ok (.iload_n 0, 1) := by decide +kernel
theorem dJ6_bitCount_0f7a4_2 : decode cJ6_bitCount_0f7a4 2 = .ok (.iconst 1, 1) := by decide +kernel
theorem dJ6_bitCount_0f7a4_3 : decode cJ6_bitCount_0f7a4 3 = .ok (.iushr, 1) := by decide +kernel
theorem dJ6_bitCount_0f7a4_4 : decode cJ6_bitCount_0f7a4 4 = .ok (.ldc_w 265, 3) := by decide +kernel
theorem dJ6_bitCount_0f7a4_7 : decode cJ6_bitCount_0f7a4 7 = .ok (.iand, 1) := by decide +kernel
theorem dJ6_bitCount_0f7a4_8 : decode cJ6_bitCount_0f7a4 8 = .ok (.isub, 1) := by decide +kernel
theorem dJ6_bitCount_0f7a4_9 : decode cJ6_bitCount_0f7a4 9 = .ok (.istore_n 0, 1) := by decide +kernel
theorem dJ6_bitCount_0f7a4_10 : decode cJ6_bitCount_0f7a4 10 = .ok (.iload_n 0, 1) := by decide +kernel
theorem dJ6_bitCount_0f7a4_11 : decode cJ6_bitCount_0f7a4 11 = .ok (.ldc_w 266, 3) := by decide +kernel
theorem dJ6_bitCount_0f7a4_14 : decode cJ6_bitCount_0f7a4 14 = .ok (.iand, 1) := by decide +kernel
theorem dJ6_bitCount_0f7a4_15 : decode cJ6_bitCount_0f7a4 15 = .ok (.iload_n 0, 1) := by decide +kernel
theorem dJ6_bitCount_0f7a4_16 : decode cJ6_bitCount_0f7a4 16 = .ok (.iconst 2, 1) := by decide +kernel
theorem dJ6_bitCount_0f7a4_17 : decode cJ6_bitCount_0f7a4 17 = .ok (.iushr, 1) := by decide +kernel
theorem dJ6_bitCount_0f7a4_18 : decode cJ6_bitCount_0f7a4 18 = .ok (.ldc_w 266, 3) := by decide +kernel
theorem dJ6_bitCount_0f7a4_21 : decode cJ6_bitCount_0f7a4 21 = .ok (.iand, 1) := by decide +kernel
theorem dJ6_bitCount_0f7a4_22 : decode cJ6_bitCount_0f7a4 22 = .ok (.iadd, 1) := by decide +kernel
theorem dJ6_bitCount_0f7a4_23 : decode cJ6_bitCount_0f7a4 23 = .ok (.istore_n 0, 1) := by decide +kernel
theorem dJ6_bitCount_0f7a4_24 : decode cJ6_bitCount_0f7a4 24 = .ok (.iload_n 0, 1) := by decide +kernel
theorem dJ6_bitCount_0f7a4_25 : decode cJ6_bitCount_0f7a4 25 = .ok (.iload_n 0, 1) := by decide +kernel
theorem dJ6_bitCount_0f7a4_26 : decode cJ6_bitCount_0f7a4 26 = .ok (.iconst 4, 1) := by decide +kernel
theorem dJ6_bitCount_0f7a4_27 : decode cJ6_bitCount_0f7a4 27 = .ok (.iushr, 1) := by decide +kernel
theorem dJ6_bitCount_0f7a4_28 : decode cJ6_bitCount_0f7a4 28 = .ok (.iadd, 1) := by decide +kernel
theorem dJ6_bitCount_0f7a4_29 : decode cJ6_bitCount_0f7a4 29 = .ok (.ldc_w 267, 3) := by decide +kernel
theorem dJ6_bitCount_0f7a4_32 : decode cJ6_bitCount_0f7a4 32 = .ok (.iand, 1) := by decide +kernel
theorem dJ6_bitCount_0f7a4_33 : decode cJ6_bitCount_0f7a4 33 = .ok (.istore_n 0, 1) := by decide +kernel
theorem dJ6_bitCount_0f7a4_34 : decode cJ6_bitCount_0f7a4 34 = .ok (.iload_n 0, 1) := by decide +kernel
theorem dJ6_bitCount_0f7a4_35 : decode cJ6_bitCount_0f7a4 35 = .ok (.iload_n 0, 1) := by decide +kernel
theorem dJ6_bitCount_0f7a4_36 : decode cJ6_bitCount_0f7a4 36 = .ok (.bipush 8, 2) := by decide +kernel
theorem dJ6_bitCount_0f7a4_38 : decode cJ6_bitCount_0f7a4 38 = .ok (.iushr, 1) := by decide +kernel
theorem dJ6_bitCount_0f7a4_39 : decode cJ6_bitCount_0f7a4 39 = .ok (.iadd, 1) := by decide +kernel
theorem dJ6_bitCount_0f7a4_40 : decode cJ6_bitCount_0f7a4 40 = .ok (.istore_n 0, 1) := by decide +kernel
theorem dJ6_bitCount_0f7a4_41 : decode cJ6_bitCount_0f7a4 41 = .ok (.iload_n 0, 1) := by decide +kernel
theorem dJ6_bitCount_0f7a4_42 : decode cJ6_bitCount_0f7a4 42 = .ok (.iload_n 0, 1) := by decide +kernel
theorem dJ6_bitCount_0f7a4_43 : decode cJ6_bitCount_0f7a4 43 = .ok (.bipush 16, 2) := by decide +kernel
theorem dJ6_bitCount_0f7a4_45 : decode cJ6_bitCount_0f7a4 45 = .ok (.iushr, 1) := by decide +kernel
theorem dJ6_bitCount_0f7a4_46 : decode cJ6_bitCount_0f7a4 46 = .ok (.iadd, 1) := by decide +kernel
theorem dJ6_bitCount_0f7a4_47 : decode cJ6_bitCount_0f7a4 47 = .ok (.istore_n 0, 1) := by decide +kernel
theorem dJ6_bitCount_0f7a4_48 : decode cJ6_bitCount_0f7a4 48 = .ok (.iload_n 0, 1) := by decide +kernel
theorem dJ6_bitCount_0f7a4_49 : decode cJ6_bitCount_0f7a4 49 = .ok (.bipush 63, 2) := by decide +kernel
theorem dJ6_bitCount_0f7a4_51 : decode cJ6_bitCount_0f7a4 51 = .ok (.iand, 1) := by decide +kernel
theorem dJ6_bitCount_0f7a4_52 : decode cJ6_bitCount_0f7a4 52 = .ok (.ireturn, 1) := by decide +kernel
theorem dJ9_max_7cf53_0 : decode cJ9_max_7cf53 0 = .ok (.iload_n 0, 1) := by decide +kernel
theorem dJ9_max_7cf53_1 : decode cJ9_max_7cf53 1 = .ok (.iload_n 1, 1) := by decide +kernel
theorem dJ9_max_7cf53_2 : decode cJ9_max_7cf53 2 = .ok (.if_icmp .lt 7, 3) := by decide +kernel
theorem dJ9_max_7cf53_5 : decode cJ9_max_7cf53 5 = .ok (.iload_n 0, 1) := by decide +kernel
theorem dJ9_max_7cf53_6 : decode cJ9_max_7cf53 6 = .ok (.goto 4, 3) := by decide +kernel
theorem dJ9_max_7cf53_9 : decode cJ9_max_7cf53 9 = .ok (.iload_n 1, 1) := by decide +kernel
theorem dJ9_max_7cf53_10 : decode cJ9_max_7cf53 10 = .ok (.ireturn, 1) := by decide +kernel
theorem dJ9_min_7cf53_0 : decode cJ9_min_7cf53 0 = .ok (.iload_n 0, 1) := by decide +kernel
theorem dJ9_min_7cf53_1 : decode cJ9_min_7cf53 1 = .ok (.iload_n 1, 1) := by decide +kernel
theorem dJ9_min_7cf53_2 : decode cJ9_min_7cf53 2 = .ok (.if_icmp .gt 7, 3) := by decide +kernel
theorem dJ9_min_7cf53_5 : decode cJ9_min_7cf53 5 = .ok (.iload_n 0, 1) := by decide +kernel
theorem dJ9_min_7cf53_6 : decode cJ9_min_7cf53 6 = .ok (.goto 4, 3) := by decide +kernel
theorem dJ9_min_7cf53_9 : decode cJ9_min_7cf53 9 = .ok (.iload_n 1, 1) := by decide +kernel
theorem dJ9_min_7cf53_10 : decode cJ9_min_7cf53 10 = .ok (.ireturn, 1) := by decide +kernel
set_option maxRecDepth 20000 in
theorem ggJ0_length_8abf5_J0_coder_7d493 : GoodIn wsJ0_length_8abf5 wsJ0_coder_7d493 := goodIn_r _ [6, 7, 8] (by decide +kernel) (by decide +kernel)
set_option maxRecDepth 20000 in
theorem gJ0_length_8abf5_J0_coder_7d493 : GoodIn wsJ0_length_8abf5 (wsV RJ0 335 RJ0 yJ0_coder_7d493 wsJ0_coder_7d493) := goodIn_app (goodIn_of _ (by decide +kernel)) ggJ0_length_8abf5_J0_coder_7d493
theorem dJ0_length_8abf5_0 : decode cJ0_length_8abf5 0 = .ok (.aload_n 0, 1) := by decide +kernel
theorem dJ0_length_8abf5_1 : decode cJ0_length_8abf5 1 = .ok (.getfield 9, 3) := by decide +kernel
theorem dJ0_length_8abf5_4 : decode cJ0_length_8abf5 4 = .ok (.arraylength, 1) := by decide +kernel
theorem dJ0_length_8abf5_5 : decode cJ0_length_8abf5 5 = .ok (.aload_n 0, 1) := by decide +kernel
theorem dJ0_length_8abf5_6 : decode cJ0_length_8abf5 6 = .ok (.invokevirtual 335, 3) := by decide +kernel
theorem dJ0_length_8abf5_9 : decode cJ0_length_8abf5 9 = .ok (.ishr, 1) := by decide +kernel
theorem dJ0_length_8abf5_10 : decode cJ0_length_8abf5 10 = .ok (.ireturn, 1) := by decide +kernel
set_option maxRecDepth 20000 in
theorem ggJ0_charAt_5068e_J0_isLatin1_aae02 : GoodIn wsJ0_charAt_5068e wsJ0_isLatin1_aae02 := goodIn_r _ [6, 7, 8] (by decide +kernel) (by decide +kernel)
set_option maxRecDepth 20000 in
theorem gJ0_charAt_5068e_J0_isLatin1_aae02 : GoodIn wsJ0_charAt_5068e (wsV RJ0 492 RJ0 yJ0_isLatin1_aae02 wsJ0_isLatin1_aae02) := goodIn_app (goodIn_of _ (by decide +kernel)) ggJ0_charAt_5068e_J0_isLatin1_aae02
set_option maxRecDepth 20000 in
theorem ggJ0_charAt_5068e_J1_charAt_3b067 : GoodIn wsJ0_charAt_5068e wsJ1_charAt_3b067 := goodIn_r _ [12, 13, 14, 5, 15, 16, 17, 18, 19, 20] (by decide +kernel) (by decide +kernel)
set_option maxRecDepth 20000 in
theorem gJ0_charAt_5068e_J1_charAt_3b067 : GoodIn wsJ0_charAt_5068e (va_wsS RJ0 495 yJ1_charAt_3b067 wsJ1_charAt_3b067) := goodIn_app (goodIn_of _ (by decide +kernel)) ggJ0_charAt_5068e_J1_charAt_3b067
set_option maxRecDepth 20000 in
theorem ggJ0_charAt_5068e_J2_charAt_3b067 : GoodIn wsJ0_charAt_5068e wsJ2_charAt_3b067 := goodIn_r _ [24, 25, 26, 23, 27, 28, 29, 30, 31, 14, 5, 15, 16, 17, 18, 19, 20, 32, 33, 34, 35, 36, 37] (by decide +kernel) (by decide +kernel)
set_option maxRecDepth 20000 in
theorem gJ0_charAt_5068e_J2_charAt_3b067 : GoodIn wsJ0_charAt_5068e (va_wsS RJ0 498 yJ2_charAt_3b067 wsJ2_charAt_3b067) := goodIn_app (goodIn_of _ (by decide +kernel)) ggJ0_charAt_5068e_J2_charAt_3b067
theorem dJ0_charAt_5068e_0 : decode cJ0_charAt_5068e 0 = .ok (.aload_n 0, 1) := by decide +kernel
theorem dJ0_charAt_5068e_1 : decode cJ0_charAt_5068e 1 = .ok (.invokevirtual 492, 3) := by decide +kernel
theorem dJ0_charAt_5068e_4 : decode cJ0_charAt_5068e 4 = .ok (.ifCond .eq 12, 3) := by decide +kernel
theorem dJ0_charAt_5068e_7 : decode cJ0_charAt_5068e 7 = .ok (.aload_n 0, 1) := by decide +kernel
theorem dJ0_charAt_5068e_8 : decode cJ0_charAt_5068e 8 = .ok (.getfield 9, 3) := by decide +kernel
theorem dJ0_charAt_5068e_11 : decode cJ0_charAt_5068e 11 = .ok (.iload_n 1, 1) := by decide +kernel
theorem dJ0_charAt_5068e_12 : decode cJ0_charAt_5068e 12 = .ok (.invokestatic 495, 3) := by decide +kernel
theorem dJ0_charAt_5068e_15 : decode cJ0_charAt_5068e 15 = .ok (.ireturn, 1) := by decide +kernel
theorem dJ0_charAt_5068e_16 : decode cJ0_charAt_5068e 16 = .ok (.aload_n 0, 1) := by decide +kernel
theorem dJ0_charAt_5068e_17 : decode cJ0_charAt_5068e 17 = .ok (.getfield 9, 3) := by decide +kernel
theorem dJ0_charAt_5068e_20 : decode cJ0_charAt_5068e 20 = .ok (.iload_n 1, 1) := by decide +kernel
theorem dJ0_charAt_5068e_21 : decode cJ0_charAt_5068e 21 = .ok (.invokestatic 498, 3) := by decide +kernel
theorem dJ0_charAt_5068e_24 : decode cJ0_charAt_5068e 24 = .ok (.ireturn, 1) := by decide +kernel
theorem dJ0_coder_7d493_0 : decode cJ0_coder_7d493 0 = .ok (.getstatic 38, 3) := by decide +kernel
theorem dJ0_coder_7d493_3 : decode cJ0_coder_7d493 3 = .ok (.ifCond .eq 10, 3) := by decide +kernel
theorem dJ0_coder_7d493_6 : decode cJ0_coder_7d493 6 = .ok (.aload_n 0, 1) := by decide +kernel
theorem dJ0_coder_7d493_7 : decode cJ0_coder_7d493 7 = .ok (.getfield 15, 3) := by decide +kernel
theorem dJ0_coder_7d493_10 : decode cJ0_coder_7d493 10 = .ok (.goto 4, 3) := by decide +kernel
theorem dJ0_coder_7d493_13 : decode cJ0_coder_7d493 13 = .ok (.iconst 1, 1) := by decide +kernel
theorem dJ0_coder_7d493_14 : decode cJ0_coder_7d493 14 = .ok (.ireturn, 1) := by decide +kernel
theorem dJ0_isLatin1_aae02_0 : decode cJ0_isLatin1_aae02 0 = .ok (.getstatic 38, 3) := by decide +kernel
theorem dJ0_isLatin1_aae02_3 : decode cJ0_isLatin1_aae02 3 = .ok (.ifCond .eq 14, 3) := by decide +kernel
theorem dJ0_isLatin1_aae02_6 : decode cJ0_isLatin1_aae02 6 = .ok (.aload_n 0, 1) := by decide +kernel
theorem dJ0_isLatin1_aae02_7 : decode cJ0_isLatin1_aae02 7 = .ok (.getfield 15, 3) := by decide +kernel
theorem dJ0_isLatin1_aae02_10 : decode cJ0_isLatin1_aae02 10 = .ok (.ifCond .ne 7, 3) := by decide +kernel
theorem dJ0_isLatin1_aae02_13 : decode cJ0_isLatin1_aae02 13 = .ok (.iconst 1, 1) := by decide +kernel
theorem dJ0_isLatin1_aae02_14 : decode cJ0_isLatin1_aae02 14 = .ok (.goto 4, 3) := by decide +kernel
theorem dJ0_isLatin1_aae02_17 : decode cJ0_isLatin1_aae02 17 = .ok (.iconst 0, 1) := by decide +kernel
theorem dJ0_isLatin1_aae02_18 : decode cJ0_isLatin1_aae02 18 = .ok (.ireturn, 1) := by decide +kernel
set_option maxRecDepth 20000 in
theorem ggJ0_checkIndex_df160_J3_checkIndex_8e157 : GoodIn wsJ0_checkIndex_df160 wsJ3_checkIndex_8e157 := goodIn_r _ [5] (by decide +kernel) (by decide +kernel)
set_option maxRecDepth 20000 in
theorem gJ0_checkIndex_df160_J3_checkIndex_8e157 : GoodIn wsJ0_checkIndex_df160 (va_wsS RJ0 1059 yJ3_checkIndex_8e157 wsJ3_checkIndex_8e157) := goodIn_app (goodIn_of _ (by decide +kernel)) ggJ0_checkIndex_df160_J3_checkIndex_8e157
theorem dJ0_checkIndex_df160_0 : decode cJ0_checkIndex_df160 0 = .ok (.iload_n 0, 1) := by decide +kernel
theorem dJ0_checkIndex_df160_1 : decode cJ0_checkIndex_df160 1 = .ok (.iload_n 1, 1) := by decide +kernel
theorem dJ0_checkIndex_df160_2 : decode cJ0_checkIndex_df160 2 = .ok (.getstatic 1053, 3) := by decide +kernel
theorem dJ0_checkIndex_df160_5 : decode cJ0_checkIndex_df160 5 = .ok (.invokestatic 1059, 3) := by decide +kernel
theorem dJ0_checkIndex_df160_8 : decode cJ0_checkIndex_df160 8 = .ok (.pop, 1) := by decide +kernel
theorem dJ0_checkIndex_df160_9 : decode cJ0_checkIndex_df160 9 = .ok (.return_, 1) := by decide +kernel
set_option maxRecDepth 20000 in
theorem ggJ1_charAt_3b067_J0_checkIndex_df160 : GoodIn wsJ1_charAt_3b067 wsJ0_checkIndex_df160 := goodIn_r _ [4, 5, 6, 7, 8, 9] (by decide +kernel) (by decide +kernel)
set_option maxRecDepth 20000 in
theorem gJ1_charAt_3b067_J0_checkIndex_df160 : GoodIn wsJ1_charAt_3b067 (va_wsS RJ1 9 yJ0_checkIndex_df160 wsJ0_checkIndex_df160) := goodIn_app (goodIn_of _ (by decide +kernel)) ggJ1_charAt_3b067_J0_checkIndex_df160
theorem dJ1_charAt_3b067_0 : decode cJ1_charAt_3b067 0 = .ok (.iload_n 1, 1) := by decide +kernel
theorem dJ1_charAt_3b067_1 : decode cJ1_charAt_3b067 1 = .ok (.aload_n 0, 1) := by decide +kernel
theorem dJ1_charAt_3b067_2 : decode cJ1_charAt_3b067 2 = .ok (.arraylength, 1) := by decide +kernel
theorem dJ1_charAt_3b067_3 : decode cJ1_charAt_3b067 3 = .ok (.invokestatic 9, 3) := by decide +kernel
theorem dJ1_charAt_3b067_6 : decode cJ1_charAt_3b067 6 = .ok (.aload_n 0, 1) := by decide +kernel
theorem dJ1_charAt_3b067_7 : decode cJ1_charAt_3b067 7 = .ok (.iload_n 1, 1) := by decide +kernel
theorem dJ1_charAt_3b067_8 : decode cJ1_charAt_3b067 8 = .ok (.baload, 1) := by decide +kernel
theorem dJ1_charAt_3b067_9 : decode cJ1_charAt_3b067 9 = .ok (.sipush 255, 3) := by decide +kernel
theorem dJ1_charAt_3b067_12 : decode cJ1_charAt_3b067 12 = .ok (.iand, 1) := by decide +kernel
theorem dJ1_charAt_3b067_13 : decode cJ1_charAt_3b067 13 = .ok (.i2c, 1) := by decide +kernel
theorem dJ1_charAt_3b067_14 : decode cJ1_charAt_3b067 14 = .ok (.ireturn, 1) := by decide +kernel
set_option maxRecDepth 20000 in
theorem ggJ2_getChar_3b067_J2_length_9d52b : GoodIn wsJ2_getChar_3b067 wsJ2_length_9d52b := goodIn_r _ [7] (by decide +kernel) (by decide +kernel)
set_option maxRecDepth 20000 in
theorem gJ2_getChar_3b067_J2_length_9d52b : GoodIn wsJ2_getChar_3b067 (va_wsS RJ2 48 yJ2_length_9d52b wsJ2_length_9d52b) := goodIn_app (goodIn_of _ (by decide +kernel)) ggJ2_getChar_3b067_J2_length_9d52b
theorem dJ2_getChar_3b067_0 : decode cJ2_getChar_3b067 0 = .ok (.getstatic 44, 3) := by decide +kernel
theorem dJ2_getChar_3b067_3 : decode cJ2_getChar_3b067 3 = .ok (.ifCond .ne 25, 3) := by decide +kernel
theorem dJ2_getChar_3b067_6 : decode cJ2_getChar_3b067 6 = .ok (.iload_n 1, 1) := by decide +kernel
theorem dJ2_getChar_3b067_7 : decode cJ2_getChar_3b067 7 = .ok (.ifCond .lt 11, 3) := by decide +kernel
theorem dJ2_getChar_3b067_10 : decode cJ2_getChar_3b067 10 = .ok (.iload_n 1, 1) := by decide +kernel
theorem dJ2_getChar_3b067_11 : decode cJ2_getChar_3b067 11 = .ok (.aload_n 0, 1) := by decide +kernel
theorem dJ2_getChar_3b067_12 : decode cJ2_getChar_3b067 12 = .ok (.invokestatic 48, 3) := by decide +kernel
theorem dJ2_getChar_3b067_15 : decode cJ2_getChar_3b067 15 = .ok (.if_icmp .lt 13, 3) := by decide +kernel
theorem dJ2_getChar_3b067_18 : decode cJ2_getChar_3b067 18 = .ok (.new 52, 3) := by decide +kernel
theorem dJ2_getChar_3b067_21 : decode cJ2_getChar_3b067 21 = .ok (.dup, 1) := by decide +kernel
theorem dJ2_getChar_3b067_22 : decode cJ2_getChar_3b067 22 = .ok (.ldc 54, 2) := by decide +kernel
theorem dJ2_getChar_3b067_24 : decode cJ2_getChar_3b067 24 = .ok (.invokespecial 56, 3) := by decide +kernel
theorem dJ2_getChar_3b067_27 : decode cJ2_getChar_3b067 27 = .ok (.athrow, 1) := by decide +kernel
theorem dJ2_getChar_3b067_28 : decode cJ2_getChar_3b067 28 = .ok (.iload_n 1, 1) := by decide +kernel
theorem dJ2_getChar_3b067_29 : decode cJ2_getChar_3b067 29 = .ok (.iconst 1, 1) := by decide +kernel
theorem dJ2_getChar_3b067_30 : decode cJ2_getChar_3b067 30 = .ok (.ishl, 1) := by decide +kernel
theorem dJ2_getChar_3b067_31 : decode cJ2_getChar_3b067 31 = .ok (.istore_n 1, 1) := by decide +kernel
theorem dJ2_getChar_3b067_32 : decode cJ2_getChar_3b067 32 = .ok (.aload_n 0, 1) := by decide +kernel
theorem dJ2_getChar_3b067_33 : decode cJ2_getChar_3b067 33 = .ok (.iload_n 1, 1) := by decide +kernel
theorem dJ2_getChar_3b067_34 : decode cJ2_getChar_3b067 34 = .ok (.iinc 1 1, 3) := by decide +kernel
theorem dJ2_getChar_3b067_37 : decode cJ2_getChar_3b067 37 = .ok (.baload, 1) := by decide +kernel
theorem dJ2_getChar_3b067_38 : decode cJ2_getChar_3b067 38 = .ok (.sipush 255, 3) := by decide +kernel
theorem dJ2_getChar_3b067_41 : decode cJ2_getChar_3b067 41 = .ok (.iand, 1) := by decide +kernel
theorem dJ2_getChar_3b067_42 : decode cJ2_getChar_3b067 42 = .ok (.getstatic 59, 3) := by decide +kernel
theorem dJ2_getChar_3b067_45 : decode cJ2_getChar_3b067 45 = .ok (.ishl, 1) := by decide +kernel
theorem dJ2_getChar_3b067_46 : decode cJ2_getChar_3b067 46 = .ok (.aload_n 0, 1) := by decide +kernel
theorem dJ2_getChar_3b067_47 : decode cJ2_getChar_3b067 47 = .ok (.iload_n 1, 1) := by decide +kernel
theorem dJ2_getChar_3b067_48 : decode cJ2_getChar_3b067 48 = .ok (.baload, 1) := by decide +kernel
theorem dJ2_getChar_3b067_49 : decode cJ2_getChar_3b067 49 = .ok (.sipush 255, 3) := by decide +kernel
theorem dJ2_getChar_3b067_52 : decode cJ2_getChar_3b067 52 = .ok (.iand, 1) := by decide +kernel
theorem dJ2_getChar_3b067_53 : decode cJ2_getChar_3b067 53 = .ok (.getstatic 63, 3) := by decide +kernel
theorem dJ2_getChar_3b067_56 : decode cJ2_getChar_3b067 56 = .ok (.ishl, 1) := by decide +kernel
theorem dJ2_getChar_3b067_57 : decode cJ2_getChar_3b067 57 = .ok (.ior, 1) := by decide +kernel
theorem dJ2_getChar_3b067_58 : decode cJ2_getChar_3b067 58 = .ok (.i2c, 1) := by decide +kernel
theorem dJ2_getChar_3b067_59 : decode cJ2_getChar_3b067 59 = .ok (.ireturn, 1) := by decide +kernel
theorem dJ2_length_9d52b_0 : decode cJ2_length_9d52b 0 = .ok (.aload_n 0, 1) := by decide +kernel
theorem dJ2_length_9d52b_1 : decode cJ2_length_9d52b 1 = .ok (.arraylength, 1) := by decide +kernel
theorem dJ2_length_9d52b_2 : decode cJ2_length_9d52b 2 = .ok (.iconst 1, 1) := by decide +kernel
theorem dJ2_length_9d52b_3 : decode cJ2_length_9d52b 3 = .ok (.ishr, 1) := by decide +kernel
theorem dJ2_length_9d52b_4 : decode cJ2_length_9d52b 4 = .ok (.ireturn, 1) := by decide +kernel
set_option maxRecDepth 20000 in
theorem ggJ2_charAt_3b067_J2_checkIndex_2214a : GoodIn wsJ2_charAt_3b067 wsJ2_checkIndex_2214a := goodIn_r _ [4, 5, 6, 3, 7, 8, 9, 10, 11, 12, 13, 14, 15, 16] (by decide +kernel) (by decide +kernel)
set_option maxRecDepth 20000 in
theorem gJ2_charAt_3b067_J2_checkIndex_2214a : GoodIn wsJ2_charAt_3b067 (va_wsS RJ2 67 yJ2_checkIndex_2214a wsJ2_checkIndex_2214a) := goodIn_app (goodIn_of _ (by decide +kernel)) ggJ2_charAt_3b067_J2_checkIndex_2214a
set_option maxRecDepth 20000 in
theorem ggJ2_charAt_3b067_J2_getChar_3b067 : GoodIn wsJ2_charAt_3b067 wsJ2_getChar_3b067 := goodIn_r _ [19, 20, 21, 22, 5, 6, 3, 7] (by decide +kernel) (by decide +kernel)
set_option maxRecDepth 20000 in
theorem gJ2_charAt_3b067_J2_getChar_3b067 : GoodIn wsJ2_charAt_3b067 (va_wsS RJ2 71 yJ2_getChar_3b067 wsJ2_getChar_3b067) := goodIn_app (goodIn_of _ (by decide +kernel)) ggJ2_charAt_3b067_J2_getChar_3b067
theorem dJ2_charAt_3b067_0 : decode cJ2_charAt_3b067 0 = .ok (.iload_n 1, 1) := by decide +kernel
theorem dJ2_charAt_3b067_1 : decode cJ2_charAt_3b067 1 = .ok (.aload_n 0, 1) := by decide +kernel
theorem dJ2_charAt_3b067_2 : decode cJ2_charAt_3b067 2 = .ok (.invokestatic 67, 3) := by decide +kernel
theorem dJ2_charAt_3b067_5 : decode cJ2_charAt_3b067 5 = .ok (.aload_n 0, 1) := by decide +kernel
theorem dJ2_charAt_3b067_6 : decode cJ2_charAt_3b067 6 = .ok (.iload_n 1, 1) := by decide +kernel
theorem dJ2_charAt_3b067_7 : decode cJ2_charAt_3b067 7 = .ok (.invokestatic 71, 3) := by decide +kernel
theorem dJ2_charAt_3b067_10 : decode cJ2_charAt_3b067 10 = .ok (.ireturn, 1) := by decide +kernel
set_option maxRecDepth 20000 in
theorem ggJ2_checkIndex_2214a_J2_length_9d52b : GoodIn wsJ2_checkIndex_2214a wsJ2_length_9d52b := goodIn_r _ [4] (by decide +kernel) (by decide +kernel)
set_option maxRecDepth 20000 in
theorem gJ2_checkIndex_2214a_J2_length_9d52b : GoodIn wsJ2_checkIndex_2214a (va_wsS RJ2 48 yJ2_length_9d52b wsJ2_length_9d52b) := goodIn_app (goodIn_of _ (by decide +kernel)) ggJ2_checkIndex_2214a_J2_length_9d52b
set_option maxRecDepth 20000 in
theorem ggJ2_checkIndex_2214a_J0_checkIndex_df160 : GoodIn wsJ2_checkIndex_2214a wsJ0_checkIndex_df160 := goodIn_r _ [8, 9, 10, 11, 12, 13] (by decide +kernel) (by decide +kernel)
set_option maxRecDepth 20000 in
theorem gJ2_checkIndex_2214a_J0_checkIndex_df160 : GoodIn wsJ2_checkIndex_2214a (va_wsS RJ2 414 yJ0_checkIndex_df160 wsJ0_checkIndex_df160) := goodIn_app (goodIn_of _ (by decide +kernel)) ggJ2_checkIndex_2214a_J0_checkIndex_df160
theorem dJ2_checkIndex_2214a_0 : decode cJ2_checkIndex_2214a 0 = .ok (.iload_n 0, 1) := by decide +kernel
theorem dJ2_checkIndex_2214a_1 : decode cJ2_checkIndex_2214a 1 = .ok (.aload_n 1, 1) := by decide +kernel
theorem dJ2_checkIndex_2214a_2 : decode cJ2_checkIndex_2214a 2 = .ok (.invokestatic 48, 3) := by decide +kernel
theorem dJ2_checkIndex_2214a_5 : decode cJ2_checkIndex_2214a 5 = .ok (.invokestatic 414, 3) := by decide +kernel
theorem dJ2_checkIndex_2214a_8 : decode cJ2_checkIndex_2214a 8 = .ok (.return_, 1) := by decide +kernel
theorem dJ3_checkIndex_8e157_0 : decode cJ3_checkIndex_8e157 0 = .ok (.iload_n 0, 1) := by decide +kernel
theorem dJ3_checkIndex_8e157_1 : decode cJ3_checkIndex_8e157 1 = .ok (.ifCond .lt 8, 3) := by decide +kernel
theorem dJ3_checkIndex_8e157_4 : decode cJ3_checkIndex_8e157 4 = .ok (.iload_n 0, 1) := by decide +kernel
theorem dJ3_checkIndex_8e157_5 : decode cJ3_checkIndex_8e157 5 = .ok (.iload_n 1, 1) := by decide +kernel
theorem dJ3_checkIndex_8e157_6 : decode cJ3_checkIndex_8e157 6 = .ok (.if_icmp .lt 10, 3) := by decide +kernel
theorem dJ3_checkIndex_8e157_9 : decode cJ3_checkIndex_8e157 9 = .ok (.aload_n 2, 1) := by decide +kernel
theorem dJ3_checkIndex_8e157_10 : decode cJ3_checkIndex_8e157 10 = .ok (.iload_n 0, 1) := by decide +kernel
theorem dJ3_checkIndex_8e157_11 : decode cJ3_checkIndex_8e157 11 = .ok (.iload_n 1, 1) := by decide +kernel
theorem dJ3_checkIndex_8e157_12 : decode cJ3_checkIndex_8e157 12 = .ok (.invokestatic 95, 3) := by decide +kernel
theorem dJ3_checkIndex_8e157_15 : decode cJ3_checkIndex_8e157 15 = .ok (.athrow, 1) := by decide +kernel
theorem dJ3_checkIndex_8e157_16 : decode cJ3_checkIndex_8e157 16 = .ok (.iload_n 0, 1) := by decide +kernel
theorem dJ3_checkIndex_8e157_17 : decode cJ3_checkIndex_8e157 17 = .ok (.ireturn, 1) := by decide +kernel
