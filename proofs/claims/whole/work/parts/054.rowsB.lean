theorem dX4_does_64 : decode cX4_does 64 = .ok (.iload_n 1, 1) := by decide +kernel
theorem dX4_does_65 : decode cX4_does 65 = .ok (.invokevirtual 128, 3) := by decide +kernel
theorem dX4_does_68 : decode cX4_does 68 = .ok (.goto 11, 3) := by decide +kernel
theorem dX4_does_71 : decode cX4_does 71 = .ok (.aload_n 0, 1) := by decide +kernel
theorem dX4_does_72 : decode cX4_does 72 = .ok (.getfield 12, 3) := by decide +kernel
theorem dX4_does_75 : decode cX4_does 75 = .ok (.iload_n 1, 1) := by decide +kernel
theorem dX4_does_76 : decode cX4_does 76 = .ok (.invokevirtual 131, 3) := by decide +kernel
theorem dX4_does_79 : decode cX4_does 79 = .ok (.iadd, 1) := by decide +kernel
theorem dX4_does_80 : decode cX4_does 80 = .ok (.ireturn, 1) := by decide +kernel
set_option maxRecDepth 20000 in
theorem ggX4_mind_X4_isName : GoodIn wsX4_mind wsX4_isName := goodIn_r _ [8, 1, 9, 10, 11, 7, 12, 13, 14, 15, 16, 17, 18, 19, 20, 21, 22, 23, 24, 25, 26, 27, 28, 29, 30, 31, 32, 33, 34, 35, 36, 37, 38, 39, 40, 41, 42] (by decide +kernel) (by decide +kernel)
set_option maxRecDepth 20000 in
theorem gX4_mind_X4_isName : GoodIn wsX4_mind (wsV RX4 105 RX4 yX4_isName wsX4_isName) := goodIn_app (goodIn_of _ (by decide +kernel)) ggX4_mind_X4_isName
set_option maxRecDepth 20000 in
theorem ggX4_mind_X4_isBelow : GoodIn wsX4_mind wsX4_isBelow := goodIn_r _ [12] (by decide +kernel) (by decide +kernel)
set_option maxRecDepth 20000 in
theorem gX4_mind_X4_isBelow : GoodIn wsX4_mind (va_wsS RX4 91 yX4_isBelow wsX4_isBelow) := goodIn_app (goodIn_of _ (by decide +kernel)) ggX4_mind_X4_isBelow
theorem dX4_mind_0 : decode cX4_mind 0 = .ok (.aload_n 0, 1) := by decide +kernel
theorem dX4_mind_1 : decode cX4_mind 1 = .ok (.iload_n 1, 1) := by decide +kernel
theorem dX4_mind_2 : decode cX4_mind 2 = .ok (.invokevirtual 105, 3) := by decide +kernel
theorem dX4_mind_5 : decode cX4_mind 5 = .ok (.ifCond .eq 21, 3) := by decide +kernel
theorem dX4_mind_8 : decode cX4_mind 8 = .ok (.iload_n 2, 1) := by decide +kernel
theorem dX4_mind_9 : decode cX4_mind 9 = .ok (.bipush 6, 2) := by decide +kernel
theorem dX4_mind_11 : decode cX4_mind 11 = .ok (.invokestatic 91, 3) := by decide +kernel
theorem dX4_mind_14 : decode cX4_mind 14 = .ok (.ifCond .eq 12, 3) := by decide +kernel
theorem dX4_mind_17 : decode cX4_mind 17 = .ok (.iload_n 3, 1) := by decide +kernel
theorem dX4_mind_18 : decode cX4_mind 18 = .ok (.bipush 10, 2) := by decide +kernel
theorem dX4_mind_20 : decode cX4_mind 20 = .ok (.invokestatic 91, 3) := by decide +kernel
theorem dX4_mind_23 : decode cX4_mind 23 = .ok (.ifCond .ne 5, 3) := by decide +kernel
theorem dX4_mind_26 : decode cX4_mind 26 = .ok (.iconst (-1), 1) := by decide +kernel
theorem dX4_mind_27 : decode cX4_mind 27 = .ok (.ireturn, 1) := by decide +kernel
theorem dX4_mind_28 : decode cX4_mind 28 = .ok (.aload_n 0, 1) := by decide +kernel
theorem dX4_mind_29 : decode cX4_mind 29 = .ok (.getfield 12, 3) := by decide +kernel
theorem dX4_mind_32 : decode cX4_mind 32 = .ok (.getfield 109, 3) := by decide +kernel
theorem dX4_mind_35 : decode cX4_mind 35 = .ok (.iload_n 1, 1) := by decide +kernel
theorem dX4_mind_36 : decode cX4_mind 36 = .ok (.iaload, 1) := by decide +kernel
theorem dX4_mind_37 : decode cX4_mind 37 = .ok (.istore 4, 2) := by decide +kernel
theorem dX4_mind_39 : decode cX4_mind 39 = .ok (.aload_n 0, 1) := by decide +kernel
theorem dX4_mind_40 : decode cX4_mind 40 = .ok (.getfield 12, 3) := by decide +kernel
theorem dX4_mind_43 : decode cX4_mind 43 = .ok (.getfield 109, 3) := by decide +kernel
theorem dX4_mind_46 : decode cX4_mind 46 = .ok (.iload_n 1, 1) := by decide +kernel
theorem dX4_mind_47 : decode cX4_mind 47 = .ok (.iload_n 2, 1) := by decide +kernel
theorem dX4_mind_48 : decode cX4_mind 48 = .ok (.iastore, 1) := by decide +kernel
theorem dX4_mind_49 : decode cX4_mind 49 = .ok (.aload_n 0, 1) := by decide +kernel
theorem dX4_mind_50 : decode cX4_mind 50 = .ok (.getfield 12, 3) := by decide +kernel
theorem dX4_mind_53 : decode cX4_mind 53 = .ok (.getfield 112, 3) := by decide +kernel
theorem dX4_mind_56 : decode cX4_mind 56 = .ok (.iload_n 1, 1) := by decide +kernel
theorem dX4_mind_57 : decode cX4_mind 57 = .ok (.iload_n 3, 1) := by decide +kernel
theorem dX4_mind_58 : decode cX4_mind 58 = .ok (.iastore, 1) := by decide +kernel
theorem dX4_mind_59 : decode cX4_mind 59 = .ok (.iload 4, 2) := by decide +kernel
theorem dX4_mind_61 : decode cX4_mind 61 = .ok (.ireturn, 1) := by decide +kernel
set_option maxRecDepth 20000 in
theorem ggX4_paint_X4_isName : GoodIn wsX4_paint wsX4_isName := goodIn_r _ [7, 1, 8, 9, 10, 6, 11, 12, 13, 14, 15, 16, 17, 18, 19, 20, 21, 22, 23, 24, 25, 26, 27, 28, 29, 30, 31, 32, 33, 34, 35, 36, 37, 38, 39, 40, 41] (by decide +kernel) (by decide +kernel)
set_option maxRecDepth 20000 in
theorem gX4_paint_X4_isName : GoodIn wsX4_paint (wsV RX4 105 RX4 yX4_isName wsX4_isName) := goodIn_app (goodIn_of _ (by decide +kernel)) ggX4_paint_X4_isName
theorem dX4_paint_0 : decode cX4_paint 0 = .ok (.aload_n 0, 1) := by decide +kernel
theorem dX4_paint_1 : decode cX4_paint 1 = .ok (.iload_n 1, 1) := by decide +kernel
theorem dX4_paint_2 : decode cX4_paint 2 = .ok (.invokevirtual 105, 3) := by decide +kernel
theorem dX4_paint_5 : decode cX4_paint 5 = .ok (.ifCond .eq 13, 3) := by decide +kernel
theorem dX4_paint_8 : decode cX4_paint 8 = .ok (.iload_n 2, 1) := by decide +kernel
theorem dX4_paint_9 : decode cX4_paint 9 = .ok (.ifCond .lt 9, 3) := by decide +kernel
theorem dX4_paint_12 : decode cX4_paint 12 = .ok (.iload_n 2, 1) := by decide +kernel
theorem dX4_paint_13 : decode cX4_paint 13 = .ok (.bipush 99, 2) := by decide +kernel
theorem dX4_paint_15 : decode cX4_paint 15 = .ok (.if_icmp .le 5, 3) := by decide +kernel
theorem dX4_paint_18 : decode cX4_paint 18 = .ok (.iconst (-1), 1) := by decide +kernel
theorem dX4_paint_19 : decode cX4_paint 19 = .ok (.ireturn, 1) := by decide +kernel
theorem dX4_paint_20 : decode cX4_paint 20 = .ok (.aload_n 0, 1) := by decide +kernel
theorem dX4_paint_21 : decode cX4_paint 21 = .ok (.getfield 12, 3) := by decide +kernel
theorem dX4_paint_24 : decode cX4_paint 24 = .ok (.getfield 115, 3) := by decide +kernel
theorem dX4_paint_27 : decode cX4_paint 27 = .ok (.iload_n 1, 1) := by decide +kernel
theorem dX4_paint_28 : decode cX4_paint 28 = .ok (.iaload, 1) := by decide +kernel
theorem dX4_paint_29 : decode cX4_paint 29 = .ok (.istore_n 3, 1) := by decide +kernel
theorem dX4_paint_30 : decode cX4_paint 30 = .ok (.aload_n 0, 1) := by decide +kernel
theorem dX4_paint_31 : decode cX4_paint 31 = .ok (.getfield 12, 3) := by decide +kernel
theorem dX4_paint_34 : decode cX4_paint 34 = .ok (.getfield 115, 3) := by decide +kernel
theorem dX4_paint_37 : decode cX4_paint 37 = .ok (.iload_n 1, 1) := by decide +kernel
theorem dX4_paint_38 : decode cX4_paint 38 = .ok (.iload_n 2, 1) := by decide +kernel
theorem dX4_paint_39 : decode cX4_paint 39 = .ok (.iastore, 1) := by decide +kernel
theorem dX4_paint_40 : decode cX4_paint 40 = .ok (.iload_n 3, 1) := by decide +kernel
theorem dX4_paint_41 : decode cX4_paint 41 = .ok (.ireturn, 1) := by decide +kernel
set_option maxRecDepth 20000 in
theorem ggX4_move_X4_isName : GoodIn wsX4_move wsX4_isName := goodIn_r _ [8, 1, 9, 10, 11, 7, 12, 13, 14, 15, 16, 17, 18, 19, 20, 21, 22, 23, 24, 25, 26, 27, 28, 29, 30, 31, 32, 33, 34, 35, 36, 37, 38, 39, 40, 41, 42] (by decide +kernel) (by decide +kernel)
set_option maxRecDepth 20000 in
theorem gX4_move_X4_isName : GoodIn wsX4_move (wsV RX4 105 RX4 yX4_isName wsX4_isName) := goodIn_app (goodIn_of _ (by decide +kernel)) ggX4_move_X4_isName
theorem dX4_move_0 : decode cX4_move 0 = .ok (.aload_n 0, 1) := by decide +kernel
theorem dX4_move_1 : decode cX4_move 1 = .ok (.iload_n 1, 1) := by decide +kernel
theorem dX4_move_2 : decode cX4_move 2 = .ok (.invokevirtual 105, 3) := by decide +kernel
theorem dX4_move_5 : decode cX4_move 5 = .ok (.ifCond .eq 13, 3) := by decide +kernel
theorem dX4_move_8 : decode cX4_move 8 = .ok (.iload_n 2, 1) := by decide +kernel
theorem dX4_move_9 : decode cX4_move 9 = .ok (.ifCond .lt 9, 3) := by decide +kernel
theorem dX4_move_12 : decode cX4_move 12 = .ok (.iload_n 2, 1) := by decide +kernel
theorem dX4_move_13 : decode cX4_move 13 = .ok (.bipush 10, 2) := by decide +kernel
theorem dX4_move_15 : decode cX4_move 15 = .ok (.if_icmp .le 5, 3) := by decide +kernel
theorem dX4_move_18 : decode cX4_move 18 = .ok (.iconst (-1), 1) := by decide +kernel
theorem dX4_move_19 : decode cX4_move 19 = .ok (.ireturn, 1) := by decide +kernel
theorem dX4_move_20 : decode cX4_move 20 = .ok (.aload_n 0, 1) := by decide +kernel
theorem dX4_move_21 : decode cX4_move 21 = .ok (.getfield 12, 3) := by decide +kernel
theorem dX4_move_24 : decode cX4_move 24 = .ok (.getfield 118, 3) := by decide +kernel
theorem dX4_move_27 : decode cX4_move 27 = .ok (.iload_n 1, 1) := by decide +kernel
theorem dX4_move_28 : decode cX4_move 28 = .ok (.iaload, 1) := by decide +kernel
theorem dX4_move_29 : decode cX4_move 29 = .ok (.istore_n 3, 1) := by decide +kernel
theorem dX4_move_30 : decode cX4_move 30 = .ok (.aload_n 0, 1) := by decide +kernel
theorem dX4_move_31 : decode cX4_move 31 = .ok (.getfield 12, 3) := by decide +kernel
theorem dX4_move_34 : decode cX4_move 34 = .ok (.getfield 118, 3) := by decide +kernel
theorem dX4_move_37 : decode cX4_move 37 = .ok (.iload_n 1, 1) := by decide +kernel
theorem dX4_move_38 : decode cX4_move 38 = .ok (.iload_n 2, 1) := by decide +kernel
theorem dX4_move_39 : decode cX4_move 39 = .ok (.iastore, 1) := by decide +kernel
theorem dX4_move_40 : decode cX4_move 40 = .ok (.iload_n 2, 1) := by decide +kernel
theorem dX4_move_41 : decode cX4_move 41 = .ok (.bipush 10, 2) := by decide +kernel
theorem dX4_move_43 : decode cX4_move 43 = .ok (.if_icmp .eq 13, 3) := by decide +kernel
theorem dX4_move_46 : decode cX4_move 46 = .ok (.aload_n 0, 1) := by decide +kernel
theorem dX4_move_47 : decode cX4_move 47 = .ok (.getfield 12, 3) := by decide +kernel
theorem dX4_move_50 : decode cX4_move 50 = .ok (.getfield 121, 3) := by decide +kernel
theorem dX4_move_53 : decode cX4_move 53 = .ok (.iload_n 1, 1) := by decide +kernel
theorem dX4_move_54 : decode cX4_move 54 = .ok (.iconst 0, 1) := by decide +kernel
theorem dX4_move_55 : decode cX4_move 55 = .ok (.iastore, 1) := by decide +kernel
theorem dX4_move_56 : decode cX4_move 56 = .ok (.iload_n 3, 1) := by decide +kernel
theorem dX4_move_57 : decode cX4_move 57 = .ok (.ireturn, 1) := by decide +kernel
set_option maxRecDepth 20000 in
theorem ggX4_wall_X4_isBelow : GoodIn wsX4_wall wsX4_isBelow := goodIn_r _ [7] (by decide +kernel) (by decide +kernel)
set_option maxRecDepth 20000 in
theorem gX4_wall_X4_isBelow : GoodIn wsX4_wall (va_wsS RX4 91 yX4_isBelow wsX4_isBelow) := goodIn_app (goodIn_of _ (by decide +kernel)) ggX4_wall_X4_isBelow
theorem dX4_wall_0 : decode cX4_wall 0 = .ok (.iload_n 1, 1) := by decide +kernel
theorem dX4_wall_1 : decode cX4_wall 1 = .ok (.bipush 10, 2) := by decide +kernel
theorem dX4_wall_3 : decode cX4_wall 3 = .ok (.invokestatic 91, 3) := by decide +kernel
theorem dX4_wall_6 : decode cX4_wall 6 = .ok (.ifCond .eq 7, 3) := by decide +kernel
theorem dX4_wall_9 : decode cX4_wall 9 = .ok (.iload_n 3, 1) := by decide +kernel
theorem dX4_wall_10 : decode cX4_wall 10 = .ok (.ifCond .ge 5, 3) := by decide +kernel
theorem dX4_wall_13 : decode cX4_wall 13 = .ok (.iconst (-1), 1) := by decide +kernel
theorem dX4_wall_14 : decode cX4_wall 14 = .ok (.ireturn, 1) := by decide +kernel
theorem dX4_wall_15 : decode cX4_wall 15 = .ok (.iconst (-1), 1) := by decide +kernel
theorem dX4_wall_16 : decode cX4_wall 16 = .ok (.istore 4, 2) := by decide +kernel
theorem dX4_wall_18 : decode cX4_wall 18 = .ok (.iload_n 2, 1) := by decide +kernel
theorem dX4_wall_19 : decode cX4_wall 19 = .ok (.ifCond .ne 32, 3) := by decide +kernel
theorem dX4_wall_22 : decode cX4_wall 22 = .ok (.iload_n 3, 1) := by decide +kernel
theorem dX4_wall_23 : decode cX4_wall 23 = .ok (.iconst 3, 1) := by decide +kernel
theorem dX4_wall_24 : decode cX4_wall 24 = .ok (.if_icmp .ge 27, 3) := by decide +kernel
theorem dX4_wall_27 : decode cX4_wall 27 = .ok (.aload_n 0, 1) := by decide +kernel
theorem dX4_wall_28 : decode cX4_wall 28 = .ok (.getfield 12, 3) := by decide +kernel
theorem dX4_wall_31 : decode cX4_wall 31 = .ok (.getfield 134, 3) := by decide +kernel
theorem dX4_wall_34 : decode cX4_wall 34 = .ok (.iload_n 1, 1) := by decide +kernel
theorem dX4_wall_35 : decode cX4_wall 35 = .ok (.iaload, 1) := by decide +kernel
theorem dX4_wall_36 : decode cX4_wall 36 = .ok (.istore 4, 2) := by decide +kernel
theorem dX4_wall_38 : decode cX4_wall 38 = .ok (.aload_n 0, 1) := by decide +kernel
theorem dX4_wall_39 : decode cX4_wall 39 = .ok (.getfield 12, 3) := by decide +kernel
theorem dX4_wall_42 : decode cX4_wall 42 = .ok (.getfield 134, 3) := by decide +kernel
theorem dX4_wall_45 : decode cX4_wall 45 = .ok (.iload_n 1, 1) := by decide +kernel
theorem dX4_wall_46 : decode cX4_wall 46 = .ok (.iload_n 3, 1) := by decide +kernel
theorem dX4_wall_47 : decode cX4_wall 47 = .ok (.iastore, 1) := by decide +kernel
theorem dX4_wall_48 : decode cX4_wall 48 = .ok (.goto 35, 3) := by decide +kernel
theorem dX4_wall_51 : decode cX4_wall 51 = .ok (.iload_n 2, 1) := by decide +kernel
theorem dX4_wall_52 : decode cX4_wall 52 = .ok (.iconst 1, 1) := by decide +kernel
theorem dX4_wall_53 : decode cX4_wall 53 = .ok (.if_icmp .ne 30, 3) := by decide +kernel
theorem dX4_wall_56 : decode cX4_wall 56 = .ok (.iload_n 3, 1) := by decide +kernel
theorem dX4_wall_57 : decode cX4_wall 57 = .ok (.bipush 9, 2) := by decide +kernel
theorem dX4_wall_59 : decode cX4_wall 59 = .ok (.if_icmp .gt 24, 3) := by decide +kernel
theorem dX4_wall_62 : decode cX4_wall 62 = .ok (.aload_n 0, 1) := by decide +kernel
theorem dX4_wall_63 : decode cX4_wall 63 = .ok (.getfield 12, 3) := by decide +kernel
theorem dX4_wall_66 : decode cX4_wall 66 = .ok (.getfield 137, 3) := by decide +kernel
theorem dX4_wall_69 : decode cX4_wall 69 = .ok (.iload_n 1, 1) := by decide +kernel
theorem dX4_wall_70 : decode cX4_wall 70 = .ok (.iaload, 1) := by decide +kernel
theorem dX4_wall_71 : decode cX4_wall 71 = .ok (.istore 4, 2) := by decide +kernel
theorem dX4_wall_73 : decode cX4_wall 73 = .ok (.aload_n 0, 1) := by decide +kernel
theorem dX4_wall_74 : decode cX4_wall 74 = .ok (.getfield 12, 3) := by decide +kernel
theorem dX4_wall_77 : decode cX4_wall 77 = .ok (.getfield 137, 3) := by decide +kernel
theorem dX4_wall_80 : decode cX4_wall 80 = .ok (.iload_n 1, 1) := by decide +kernel
theorem dX4_wall_81 : decode cX4_wall 81 = .ok (.iload_n 3, 1) := by decide +kernel
theorem dX4_wall_82 : decode cX4_wall 82 = .ok (.iastore, 1) := by decide +kernel
theorem dX4_wall_83 : decode cX4_wall 83 = .ok (.iload 4, 2) := by decide +kernel
theorem dX4_wall_85 : decode cX4_wall 85 = .ok (.ireturn, 1) := by decide +kernel
set_option maxRecDepth 20000 in
theorem ggX4_wallOf_X4_isBelow : GoodIn wsX4_wallOf wsX4_isBelow := goodIn_r _ [7] (by decide +kernel) (by decide +kernel)
set_option maxRecDepth 20000 in
theorem gX4_wallOf_X4_isBelow : GoodIn wsX4_wallOf (va_wsS RX4 91 yX4_isBelow wsX4_isBelow) := goodIn_app (goodIn_of _ (by decide +kernel)) ggX4_wallOf_X4_isBelow
set_option maxRecDepth 20000 in
theorem ggX4_wallOf_X2_looksOf : GoodIn wsX4_wallOf wsX2_looksOf := goodIn_r _ [12, 13, 14, 15, 16, 36, 37, 38, 39, 40, 41, 42, 43, 44, 45, 46, 47, 48, 49, 50] (by decide +kernel) (by decide +kernel)
set_option maxRecDepth 20000 in
theorem gX4_wallOf_X2_looksOf : GoodIn wsX4_wallOf (wsV RX4 140 RX2 yX2_looksOf wsX2_looksOf) := goodIn_app (goodIn_of _ (by decide +kernel)) ggX4_wallOf_X2_looksOf
set_option maxRecDepth 20000 in
theorem ggX4_wallOf_X2_namesOn : GoodIn wsX4_wallOf wsX2_namesOn := goodIn_r _ [20, 13, 14, 36, 37, 38, 39, 40, 41, 42, 43, 44, 45, 46, 47, 48, 49, 50] (by decide +kernel) (by decide +kernel)
set_option maxRecDepth 20000 in
theorem gX4_wallOf_X2_namesOn : GoodIn wsX4_wallOf (wsV RX4 143 RX2 yX2_namesOn wsX2_namesOn) := goodIn_app (goodIn_of _ (by decide +kernel)) ggX4_wallOf_X2_namesOn
theorem dX4_wallOf_0 : decode cX4_wallOf 0 = .ok (.iload_n 1, 1) := by decide +kernel
theorem dX4_wallOf_1 : decode cX4_wallOf 1 = .ok (.bipush 10, 2) := by decide +kernel
theorem dX4_wallOf_3 : decode cX4_wallOf 3 = .ok (.invokestatic 91, 3) := by decide +kernel
theorem dX4_wallOf_6 : decode cX4_wallOf 6 = .ok (.ifCond .ne 5, 3) := by decide +kernel
theorem dX4_wallOf_9 : decode cX4_wallOf 9 = .ok (.iconst (-1), 1) := by decide +kernel
theorem dX4_wallOf_10 : decode cX4_wallOf 10 = .ok (.ireturn, 1) := by decide +kernel
theorem dX4_wallOf_11 : decode cX4_wallOf 11 = .ok (.iload_n 2, 1) := by decide +kernel
theorem dX4_wallOf_12 : decode cX4_wallOf 12 = .ok (.tableswitch 70 0 3 #[32, 42, 52, 61], 32) := by decide +kernel
theorem dX4_wallOf_44 : decode cX4_wallOf 44 = .ok (.aload_n 0, 1) := by decide +kernel
theorem dX4_wallOf_45 : decode cX4_wallOf 45 = .ok (.getfield 12, 3) := by decide +kernel
theorem dX4_wallOf_48 : decode cX4_wallOf 48 = .ok (.getfield 134, 3) := by decide +kernel
theorem dX4_wallOf_51 : decode cX4_wallOf 51 = .ok (.iload_n 1, 1) := by decide +kernel
theorem dX4_wallOf_52 : decode cX4_wallOf 52 = .ok (.iaload, 1) := by decide +kernel
theorem dX4_wallOf_53 : decode cX4_wallOf 53 = .ok (.ireturn, 1) := by decide +kernel
theorem dX4_wallOf_54 : decode cX4_wallOf 54 = .ok (.aload_n 0, 1) := by decide +kernel
theorem dX4_wallOf_55 : decode cX4_wallOf 55 = .ok (.getfield 12, 3) := by decide +kernel
theorem dX4_wallOf_58 : decode cX4_wallOf 58 = .ok (.getfield 137, 3) := by decide +kernel
theorem dX4_wallOf_61 : decode cX4_wallOf 61 = .ok (.iload_n 1, 1) := by decide +kernel
theorem dX4_wallOf_62 : decode cX4_wallOf 62 = .ok (.iaload, 1) := by decide +kernel
theorem dX4_wallOf_63 : decode cX4_wallOf 63 = .ok (.ireturn, 1) := by decide +kernel
theorem dX4_wallOf_64 : decode cX4_wallOf 64 = .ok (.aload_n 0, 1) := by decide +kernel
theorem dX4_wallOf_65 : decode cX4_wallOf 65 = .ok (.getfield 12, 3) := by decide +kernel
theorem dX4_wallOf_68 : decode cX4_wallOf 68 = .ok (.iload_n 1, 1) := by decide +kernel
theorem dX4_wallOf_69 : decode cX4_wallOf 69 = .ok (.invokevirtual 140, 3) := by decide +kernel
theorem dX4_wallOf_72 : decode cX4_wallOf 72 = .ok (.ireturn, 1) := by decide +kernel
theorem dX4_wallOf_73 : decode cX4_wallOf 73 = .ok (.aload_n 0, 1) := by decide +kernel
theorem dX4_wallOf_74 : decode cX4_wallOf 74 = .ok (.getfield 12, 3) := by decide +kernel
theorem dX4_wallOf_77 : decode cX4_wallOf 77 = .ok (.iload_n 1, 1) := by decide +kernel
theorem dX4_wallOf_78 : decode cX4_wallOf 78 = .ok (.invokevirtual 143, 3) := by decide +kernel
theorem dX4_wallOf_81 : decode cX4_wallOf 81 = .ok (.ireturn, 1) := by decide +kernel
theorem dX4_wallOf_82 : decode cX4_wallOf 82 = .ok (.iconst (-1), 1) := by decide +kernel
theorem dX4_wallOf_83 : decode cX4_wallOf 83 = .ok (.ireturn, 1) := by decide +kernel
set_option maxRecDepth 20000 in
theorem ggX4_clean_X4_isBelow : GoodIn wsX4_clean wsX4_isBelow := goodIn_r _ [5] (by decide +kernel) (by decide +kernel)
set_option maxRecDepth 20000 in
theorem gX4_clean_X4_isBelow : GoodIn wsX4_clean (va_wsS RX4 91 yX4_isBelow wsX4_isBelow) := goodIn_app (goodIn_of _ (by decide +kernel)) ggX4_clean_X4_isBelow
set_option maxRecDepth 20000 in
theorem ggX4_clean_X2_cleanWall : GoodIn wsX4_clean wsX2_cleanWall := goodIn_r _ [10, 11, 12, 13, 14, 15, 16, 17, 18, 19, 9, 20, 21, 22, 23, 24, 25, 26, 27, 28, 29, 30, 31, 32, 33, 49, 50, 51, 52, 53, 54, 55, 56, 57, 58, 59, 60, 61, 62, 63] (by decide +kernel) (by decide +kernel)
set_option maxRecDepth 20000 in
theorem gX4_clean_X2_cleanWall : GoodIn wsX4_clean (wsV RX4 146 RX2 yX2_cleanWall wsX2_cleanWall) := goodIn_app (goodIn_of _ (by decide +kernel)) ggX4_clean_X2_cleanWall
theorem dX4_clean_0 : decode cX4_clean 0 = .ok (.iload_n 1, 1) := by decide +kernel
theorem dX4_clean_1 : decode cX4_clean 1 = .ok (.bipush 10, 2) := by decide +kernel
theorem dX4_clean_3 : decode cX4_clean 3 = .ok (.invokestatic 91, 3) := by decide +kernel
theorem dX4_clean_6 : decode cX4_clean 6 = .ok (.ifCond .eq 14, 3) := by decide +kernel
theorem dX4_clean_9 : decode cX4_clean 9 = .ok (.aload_n 0, 1) := by decide +kernel
theorem dX4_clean_10 : decode cX4_clean 10 = .ok (.getfield 12, 3) := by decide +kernel
theorem dX4_clean_13 : decode cX4_clean 13 = .ok (.iload_n 1, 1) := by decide +kernel
theorem dX4_clean_14 : decode cX4_clean 14 = .ok (.invokevirtual 146, 3) := by decide +kernel
theorem dX4_clean_17 : decode cX4_clean 17 = .ok (.goto 4, 3) := by decide +kernel
theorem dX4_clean_20 : decode cX4_clean 20 = .ok (.iconst (-1), 1) := by decide +kernel
theorem dX4_clean_21 : decode cX4_clean 21 = .ok (.ireturn, 1) := by decide +kernel
set_option maxRecDepth 20000 in
theorem ggX4_nights_X2_passNight : GoodIn wsX4_nights wsX2_passNight := goodIn_r _ [6, 7, 8, 9, 10, 11, 12, 13, 14, 15, 16, 17, 18, 5, 19, 20, 21, 22, 23, 24, 25, 26, 27, 28, 29, 30, 31, 32, 33, 34, 35, 36, 37, 38, 39, 40, 41, 42, 43, 44, 45, 46, 47, 48, 49, 50, 51, 52, 53, 54, 55, 56, 57, 58, 59, 60, 61, 62, 63, 64, 65, 66, 67, 68, 69, 70, 71, 72, 73, 74, 75, 92, 93, 94, 95, 96, 97, 98, 99, 100, 101, 102, 103, 104, 105, 106] (by decide +kernel) (by decide +kernel)
set_option maxRecDepth 20000 in
theorem gX4_nights_X2_passNight : GoodIn wsX4_nights (wsV RX4 149 RX2 yX2_passNight wsX2_passNight) := goodIn_app (goodIn_of _ (by decide +kernel)) ggX4_nights_X2_passNight
set_option maxRecDepth 20000 in
theorem ggX4_nights_X2_looksOfAll : GoodIn wsX4_nights wsX2_looksOfAll := goodIn_r _ [75, 20, 21, 56, 24, 92, 93, 94, 95, 96, 97, 98, 99, 100, 101, 102, 103, 104, 105, 106] (by decide +kernel) (by decide +kernel)
set_option maxRecDepth 20000 in
theorem gX4_nights_X2_looksOfAll : GoodIn wsX4_nights (wsV RX4 152 RX2 yX2_looksOfAll wsX2_looksOfAll) := goodIn_app (goodIn_of _ (by decide +kernel)) ggX4_nights_X2_looksOfAll
theorem dX4_nights_0 : decode cX4_nights 0 = .ok (.iload_n 1, 1) := by decide +kernel
theorem dX4_nights_1 : decode cX4_nights 1 = .ok (.iconst 1, 1) := by decide +kernel
theorem dX4_nights_2 : decode cX4_nights 2 = .ok (.if_icmp .lt 9, 3) := by decide +kernel
theorem dX4_nights_5 : decode cX4_nights 5 = .ok (.iload_n 1, 1) := by decide +kernel
theorem dX4_nights_6 : decode cX4_nights 6 = .ok (.bipush 60, 2) := by decide +kernel
theorem dX4_nights_8 : decode cX4_nights 8 = .ok (.if_icmp .le 5, 3) := by decide +kernel
theorem dX4_nights_11 : decode cX4_nights 11 = .ok (.iconst (-1), 1) := by decide +kernel
theorem dX4_nights_12 : decode cX4_nights 12 = .ok (.ireturn, 1) := by decide +kernel
theorem dX4_nights_13 : decode cX4_nights 13 = .ok (.iconst 0, 1) := by decide +kernel
theorem dX4_nights_14 : decode cX4_nights 14 = .ok (.istore_n 2, 1) := by decide +kernel
theorem dX4_nights_15 : decode cX4_nights 15 = .ok (.iload_n 2, 1) := by decide +kernel
theorem dX4_nights_16 : decode cX4_nights 16 = .ok (.iload_n 1, 1) := by decide +kernel
theorem dX4_nights_17 : decode cX4_nights 17 = .ok (.if_icmp .ge 16, 3) := by decide +kernel
theorem dX4_nights_20 : decode cX4_nights 20 = .ok (.aload_n 0, 1) := by decide +kernel
theorem dX4_nights_21 : decode cX4_nights 21 = .ok (.getfield 12, 3) := by decide +kernel
theorem dX4_nights_24 : decode cX4_nights 24 = .ok (.invokevirtual 149, 3) := by decide +kernel
theorem dX4_nights_27 : decode cX4_nights 27 = .ok (.iinc 2 1, 3) := by decide +kernel
theorem dX4_nights_30 : decode cX4_nights 30 = .ok (.goto (-15), 3) := by decide +kernel
theorem dX4_nights_33 : decode cX4_nights 33 = .ok (.aload_n 0, 1) := by decide +kernel
theorem dX4_nights_34 : decode cX4_nights 34 = .ok (.getfield 12, 3) := by decide +kernel
theorem dX4_nights_37 : decode cX4_nights 37 = .ok (.invokevirtual 152, 3) := by decide +kernel
theorem dX4_nights_40 : decode cX4_nights 40 = .ok (.ireturn, 1) := by decide +kernel
theorem dX4_seed_0 : decode cX4_seed 0 = .ok (.aload_n 0, 1) := by decide +kernel
theorem dX4_seed_1 : decode cX4_seed 1 = .ok (.getfield 12, 3) := by decide +kernel
theorem dX4_seed_4 : decode cX4_seed 4 = .ok (.getfield 72, 3) := by decide +kernel
theorem dX4_seed_7 : decode cX4_seed 7 = .ok (.istore_n 2, 1) := by decide +kernel
theorem dX4_seed_8 : decode cX4_seed 8 = .ok (.aload_n 0, 1) := by decide +kernel
theorem dX4_seed_9 : decode cX4_seed 9 = .ok (.getfield 12, 3) := by decide +kernel
theorem dX4_seed_12 : decode cX4_seed 12 = .ok (.iload_n 1, 1) := by decide +kernel
theorem dX4_seed_13 : decode cX4_seed 13 = .ok (.putfield 72, 3) := by decide +kernel
theorem dX4_seed_16 : decode cX4_seed 16 = .ok (.iload_n 2, 1) := by decide +kernel
theorem dX4_seed_17 : decode cX4_seed 17 = .ok (.ireturn, 1) := by decide +kernel
set_option maxRecDepth 20000 in
theorem ggX4_night_X2_passNightByDraws : GoodIn wsX4_night wsX2_passNightByDraws := goodIn_r _ [6, 7, 8, 9, 10, 11, 12, 5, 13, 14, 15, 16, 17, 18, 19, 20, 21, 22, 23, 24, 25, 26, 27, 28, 29, 30, 31, 32, 33, 34, 35, 36, 37, 38, 39, 40, 41, 42, 43, 44, 45, 46, 47, 48, 49, 50, 51, 52, 53, 54, 55, 56, 57, 58, 59, 60, 61, 62, 63, 64, 65, 66, 67, 68, 69, 70, 71, 72, 73, 74, 75, 76, 77, 78, 79, 80, 81, 82, 83, 84, 85, 102, 103, 104, 105, 106, 107, 108, 109, 110, 111, 112, 113, 114, 115, 116] (by decide +kernel) (by decide +kernel)
set_option maxRecDepth 20000 in
theorem gX4_night_X2_passNightByDraws : GoodIn wsX4_night (wsV RX4 155 RX2 yX2_passNightByDraws wsX2_passNightByDraws) := goodIn_app (goodIn_of _ (by decide +kernel)) ggX4_night_X2_passNightByDraws
set_option maxRecDepth 20000 in
theorem ggX4_night_X2_looksOfAll : GoodIn wsX4_night wsX2_looksOfAll := goodIn_r _ [85, 7, 32, 66, 9, 102, 103, 104, 105, 106, 107, 108, 109, 110, 111, 112, 113, 114, 115, 116] (by decide +kernel) (by decide +kernel)
set_option maxRecDepth 20000 in
theorem gX4_night_X2_looksOfAll : GoodIn wsX4_night (wsV RX4 152 RX2 yX2_looksOfAll wsX2_looksOfAll) := goodIn_app (goodIn_of _ (by decide +kernel)) ggX4_night_X2_looksOfAll
theorem dX4_night_0 : decode cX4_night 0 = .ok (.aload_n 0, 1) := by decide +kernel
theorem dX4_night_1 : decode cX4_night 1 = .ok (.getfield 12, 3) := by decide +kernel
theorem dX4_night_4 : decode cX4_night 4 = .ok (.invokevirtual 155, 3) := by decide +kernel
theorem dX4_night_7 : decode cX4_night 7 = .ok (.aload_n 0, 1) := by decide +kernel
theorem dX4_night_8 : decode cX4_night 8 = .ok (.getfield 12, 3) := by decide +kernel
theorem dX4_night_11 : decode cX4_night 11 = .ok (.invokevirtual 152, 3) := by decide +kernel
theorem dX4_night_14 : decode cX4_night 14 = .ok (.ireturn, 1) := by decide +kernel
set_option maxRecDepth 20000 in
theorem ggX4_shy_X2_become : GoodIn wsX4_shy wsX2_become := goodIn_r _ [9, 10, 11, 12, 13, 14, 15, 16, 17, 18, 19, 20, 21, 22, 23, 24, 25, 26, 27, 116, 117, 118, 119, 120, 121, 122, 123, 124, 125, 126, 127, 128, 129, 130] (by decide +kernel) (by decide +kernel)
set_option maxRecDepth 20000 in
theorem gX4_shy_X2_become : GoodIn wsX4_shy (wsV RX4 84 RX2 yX2_become wsX2_become) := goodIn_app (goodIn_of _ (by decide +kernel)) ggX4_shy_X2_become
set_option maxRecDepth 20000 in
theorem ggX4_shy_X2_gainedBy : GoodIn wsX4_shy wsX2_gainedBy := goodIn_r _ [31, 26, 32, 33, 34, 8, 35, 10, 23, 36, 24, 37, 38, 39, 40, 41, 42, 43, 44, 17, 21, 22, 19, 20, 45, 46, 47, 48, 18, 49, 50, 51, 52, 27, 53, 54, 55, 56, 15, 57, 58, 59, 60, 61, 62, 63, 64, 65, 66, 67, 68, 69, 70, 71, 72, 16, 73, 74, 75, 76, 77, 78, 79, 80, 81, 82, 83, 84, 85, 86, 87, 88, 89, 90, 91, 116, 117, 118, 119, 120, 121, 122, 123, 124, 125, 126, 127, 128, 129, 130] (by decide +kernel) (by decide +kernel)
set_option maxRecDepth 20000 in
theorem gX4_shy_X2_gainedBy : GoodIn wsX4_shy (wsV RX4 158 RX2 yX2_gainedBy wsX2_gainedBy) := goodIn_app (goodIn_of _ (by decide +kernel)) ggX4_shy_X2_gainedBy
set_option maxRecDepth 20000 in
theorem ggX4_shy_X2_passNightByDraws : GoodIn wsX4_shy wsX2_passNightByDraws := goodIn_r _ [95, 17, 10, 20, 96, 97, 98, 8, 99, 25, 100, 32, 33, 34, 35, 23, 36, 24, 37, 38, 39, 40, 26, 41, 42, 43, 44, 21, 22, 19, 45, 46, 47, 48, 18, 49, 50, 51, 52, 27, 53, 54, 55, 56, 15, 57, 58, 59, 60, 61, 62, 63, 64, 65, 66, 67, 68, 69, 70, 71, 72, 16, 73, 74, 75, 76, 77, 78, 79, 80, 81, 82, 83, 84, 85, 86, 87, 88, 89, 90, 91, 116, 117, 118, 119, 120, 121, 122, 123, 124, 125, 126, 127, 128, 129, 130] (by decide +kernel) (by decide +kernel)
set_option maxRecDepth 20000 in
theorem gX4_shy_X2_passNightByDraws : GoodIn wsX4_shy (wsV RX4 155 RX2 yX2_passNightByDraws wsX2_passNightByDraws) := goodIn_app (goodIn_of _ (by decide +kernel)) ggX4_shy_X2_passNightByDraws
theorem dX4_shy_0 : decode cX4_shy 0 = .ok (.iload_n 1, 1) := by decide +kernel
theorem dX4_shy_1 : decode cX4_shy 1 = .ok (.iconst 1, 1) := by decide +kernel
theorem dX4_shy_2 : decode cX4_shy 2 = .ok (.if_icmp .lt 9, 3) := by decide +kernel
theorem dX4_shy_5 : decode cX4_shy 5 = .ok (.iload_n 1, 1) := by decide +kernel
theorem dX4_shy_6 : decode cX4_shy 6 = .ok (.bipush 30, 2) := by decide +kernel
theorem dX4_shy_8 : decode cX4_shy 8 = .ok (.if_icmp .le 5, 3) := by decide +kernel
theorem dX4_shy_11 : decode cX4_shy 11 = .ok (.iconst (-1), 1) := by decide +kernel
theorem dX4_shy_12 : decode cX4_shy 12 = .ok (.ireturn, 1) := by decide +kernel
theorem dX4_shy_13 : decode cX4_shy 13 = .ok (.aload_n 0, 1) := by decide +kernel
theorem dX4_shy_14 : decode cX4_shy 14 = .ok (.getfield 16, 3) := by decide +kernel
theorem dX4_shy_17 : decode cX4_shy 17 = .ok (.aload_n 0, 1) := by decide +kernel
theorem dX4_shy_18 : decode cX4_shy 18 = .ok (.getfield 12, 3) := by decide +kernel
theorem dX4_shy_21 : decode cX4_shy 21 = .ok (.invokevirtual 84, 3) := by decide +kernel
theorem dX4_shy_24 : decode cX4_shy 24 = .ok (.aload_n 0, 1) := by decide +kernel
theorem dX4_shy_25 : decode cX4_shy 25 = .ok (.getfield 16, 3) := by decide +kernel
theorem dX4_shy_28 : decode cX4_shy 28 = .ok (.iconst 1, 1) := by decide +kernel
theorem dX4_shy_29 : decode cX4_shy 29 = .ok (.invokevirtual 158, 3) := by decide +kernel
theorem dX4_shy_32 : decode cX4_shy 32 = .ok (.istore_n 2, 1) := by decide +kernel
theorem dX4_shy_33 : decode cX4_shy 33 = .ok (.aload_n 0, 1) := by decide +kernel
theorem dX4_shy_34 : decode cX4_shy 34 = .ok (.getfield 12, 3) := by decide +kernel
theorem dX4_shy_37 : decode cX4_shy 37 = .ok (.getfield 72, 3) := by decide +kernel
theorem dX4_shy_40 : decode cX4_shy 40 = .ok (.istore_n 3, 1) := by decide +kernel
theorem dX4_shy_41 : decode cX4_shy 41 = .ok (.iconst 0, 1) := by decide +kernel
theorem dX4_shy_42 : decode cX4_shy 42 = .ok (.istore 4, 2) := by decide +kernel
theorem dX4_shy_44 : decode cX4_shy 44 = .ok (.iconst 0, 1) := by decide +kernel
theorem dX4_shy_45 : decode cX4_shy 45 = .ok (.istore 5, 2) := by decide +kernel
theorem dX4_shy_47 : decode cX4_shy 47 = .ok (.iload 5, 2) := by decide +kernel
theorem dX4_shy_49 : decode cX4_shy 49 = .ok (.iload_n 1, 1) := by decide +kernel
theorem dX4_shy_50 : decode cX4_shy 50 = .ok (.if_icmp .ge 57, 3) := by decide +kernel
theorem dX4_shy_53 : decode cX4_shy 53 = .ok (.aload_n 0, 1) := by decide +kernel
theorem dX4_shy_54 : decode cX4_shy 54 = .ok (.getfield 16, 3) := by decide +kernel
theorem dX4_shy_57 : decode cX4_shy 57 = .ok (.aload_n 0, 1) := by decide +kernel
theorem dX4_shy_58 : decode cX4_shy 58 = .ok (.getfield 12, 3) := by decide +kernel
theorem dX4_shy_61 : decode cX4_shy 61 = .ok (.invokevirtual 84, 3) := by decide +kernel
theorem dX4_shy_64 : decode cX4_shy 64 = .ok (.aload_n 0, 1) := by decide +kernel
theorem dX4_shy_65 : decode cX4_shy 65 = .ok (.getfield 16, 3) := by decide +kernel
theorem dX4_shy_68 : decode cX4_shy 68 = .ok (.iload_n 3, 1) := by decide +kernel
theorem dX4_shy_69 : decode cX4_shy 69 = .ok (.putfield 72, 3) := by decide +kernel
theorem dX4_shy_72 : decode cX4_shy 72 = .ok (.aload_n 0, 1) := by decide +kernel
theorem dX4_shy_73 : decode cX4_shy 73 = .ok (.getfield 16, 3) := by decide +kernel
theorem dX4_shy_76 : decode cX4_shy 76 = .ok (.invokevirtual 155, 3) := by decide +kernel
theorem dX4_shy_79 : decode cX4_shy 79 = .ok (.aload_n 0, 1) := by decide +kernel
theorem dX4_shy_80 : decode cX4_shy 80 = .ok (.getfield 16, 3) := by decide +kernel
theorem dX4_shy_83 : decode cX4_shy 83 = .ok (.getfield 161, 3) := by decide +kernel
theorem dX4_shy_86 : decode cX4_shy 86 = .ok (.iload_n 2, 1) := by decide +kernel
theorem dX4_shy_87 : decode cX4_shy 87 = .ok (.if_icmp .ge 6, 3) := by decide +kernel
theorem dX4_shy_90 : decode cX4_shy 90 = .ok (.iinc 4 1, 3) := by decide +kernel
theorem dX4_shy_93 : decode cX4_shy 93 = .ok (.aload_n 0, 1) := by decide +kernel
theorem dX4_shy_94 : decode cX4_shy 94 = .ok (.getfield 16, 3) := by decide +kernel
theorem dX4_shy_97 : decode cX4_shy 97 = .ok (.getfield 72, 3) := by decide +kernel
theorem dX4_shy_100 : decode cX4_shy 100 = .ok (.istore_n 3, 1) := by decide +kernel
theorem dX4_shy_101 : decode cX4_shy 101 = .ok (.iinc 5 1, 3) := by decide +kernel
theorem dX4_shy_104 : decode cX4_shy 104 = .ok (.goto (-57), 3) := by decide +kernel
theorem dX4_shy_107 : decode cX4_shy 107 = .ok (.iload 4, 2) := by decide +kernel
theorem dX4_shy_109 : decode cX4_shy 109 = .ok (.ireturn, 1) := by decide +kernel
set_option maxRecDepth 20000 in
theorem ggX4_state_X2_looksOfAll : GoodIn wsX4_state wsX2_looksOfAll := goodIn_r _ [8, 9, 10, 11, 12, 41, 42, 43, 44, 45, 46, 47, 48, 49, 50, 51, 52, 53, 54, 55] (by decide +kernel) (by decide +kernel)
set_option maxRecDepth 20000 in
theorem gX4_state_X2_looksOfAll : GoodIn wsX4_state (wsV RX4 152 RX2 yX2_looksOfAll wsX2_looksOfAll) := goodIn_app (goodIn_of _ (by decide +kernel)) ggX4_state_X2_looksOfAll
set_option maxRecDepth 20000 in
theorem ggX4_state_X2_namesOn : GoodIn wsX4_state wsX2_namesOn := goodIn_r _ [16, 9, 10, 41, 42, 43, 44, 45, 46, 47, 48, 49, 50, 51, 52, 53, 54, 55] (by decide +kernel) (by decide +kernel)
set_option maxRecDepth 20000 in
theorem gX4_state_X2_namesOn : GoodIn wsX4_state (wsV RX4 143 RX2 yX2_namesOn wsX2_namesOn) := goodIn_app (goodIn_of _ (by decide +kernel)) ggX4_state_X2_namesOn
set_option maxRecDepth 20000 in
theorem ggX4_state_X2_wallsInUse : GoodIn wsX4_state wsX2_wallsInUse := goodIn_r _ [20, 9, 10, 41, 42, 43, 44, 45, 46, 47, 48, 49, 50, 51, 52, 53, 54, 55] (by decide +kernel) (by decide +kernel)
set_option maxRecDepth 20000 in
theorem gX4_state_X2_wallsInUse : GoodIn wsX4_state (wsV RX4 170 RX2 yX2_wallsInUse wsX2_wallsInUse) := goodIn_app (goodIn_of _ (by decide +kernel)) ggX4_state_X2_wallsInUse
set_option maxRecDepth 20000 in
theorem ggX4_state_X2_wallsOfGround : GoodIn wsX4_state wsX2_wallsOfGround := goodIn_r _ [24, 25, 41, 42, 43, 44, 45, 46, 47, 48, 49, 50, 51, 52, 53, 54, 55] (by decide +kernel) (by decide +kernel)
set_option maxRecDepth 20000 in
theorem gX4_state_X2_wallsOfGround : GoodIn wsX4_state (wsV RX4 173 RX2 yX2_wallsOfGround wsX2_wallsOfGround) := goodIn_app (goodIn_of _ (by decide +kernel)) ggX4_state_X2_wallsOfGround
theorem dX4_state_0 : decode cX4_state 0 = .ok (.iload_n 1, 1) := by decide +kernel
theorem dX4_state_1 : decode cX4_state 1 = .ok (.tableswitch 90 0 5 #[39, 47, 55, 63, 73, 81], 39) := by decide +kernel
theorem dX4_state_40 : decode cX4_state 40 = .ok (.aload_n 0, 1) := by decide +kernel
theorem dX4_state_41 : decode cX4_state 41 = .ok (.getfield 12, 3) := by decide +kernel
theorem dX4_state_44 : decode cX4_state 44 = .ok (.getfield 164, 3) := by decide +kernel
theorem dX4_state_47 : decode cX4_state 47 = .ok (.ireturn, 1) := by decide +kernel
theorem dX4_state_48 : decode cX4_state 48 = .ok (.aload_n 0, 1) := by decide +kernel
theorem dX4_state_49 : decode cX4_state 49 = .ok (.getfield 12, 3) := by decide +kernel
theorem dX4_state_52 : decode cX4_state 52 = .ok (.getfield 167, 3) := by decide +kernel
theorem dX4_state_55 : decode cX4_state 55 = .ok (.ireturn, 1) := by decide +kernel
theorem dX4_state_56 : decode cX4_state 56 = .ok (.aload_n 0, 1) := by decide +kernel
theorem dX4_state_57 : decode cX4_state 57 = .ok (.getfield 12, 3) := by decide +kernel
theorem dX4_state_60 : decode cX4_state 60 = .ok (.invokevirtual 152, 3) := by decide +kernel
theorem dX4_state_63 : decode cX4_state 63 = .ok (.ireturn, 1) := by decide +kernel
theorem dX4_state_64 : decode cX4_state 64 = .ok (.aload_n 0, 1) := by decide +kernel
theorem dX4_state_65 : decode cX4_state 65 = .ok (.getfield 12, 3) := by decide +kernel
theorem dX4_state_68 : decode cX4_state 68 = .ok (.bipush 10, 2) := by decide +kernel
theorem dX4_state_70 : decode cX4_state 70 = .ok (.invokevirtual 143, 3) := by decide +kernel
theorem dX4_state_73 : decode cX4_state 73 = .ok (.ireturn, 1) := by decide +kernel
theorem dX4_state_74 : decode cX4_state 74 = .ok (.aload_n 0, 1) := by decide +kernel
theorem dX4_state_75 : decode cX4_state 75 = .ok (.getfield 12, 3) := by decide +kernel
theorem dX4_state_78 : decode cX4_state 78 = .ok (.invokevirtual 170, 3) := by decide +kernel
theorem dX4_state_81 : decode cX4_state 81 = .ok (.ireturn, 1) := by decide +kernel
theorem dX4_state_82 : decode cX4_state 82 = .ok (.aload_n 0, 1) := by decide +kernel
theorem dX4_state_83 : decode cX4_state 83 = .ok (.getfield 12, 3) := by decide +kernel
theorem dX4_state_86 : decode cX4_state 86 = .ok (.iconst 1, 1) := by decide +kernel
theorem dX4_state_87 : decode cX4_state 87 = .ok (.invokevirtual 173, 3) := by decide +kernel
theorem dX4_state_90 : decode cX4_state 90 = .ok (.ireturn, 1) := by decide +kernel
theorem dX4_state_91 : decode cX4_state 91 = .ok (.iconst (-1), 1) := by decide +kernel
theorem dX4_state_92 : decode cX4_state 92 = .ok (.ireturn, 1) := by decide +kernel
set_option maxRecDepth 20000 in
theorem ggX4_view_X2_become : GoodIn wsX4_view wsX2_become := goodIn_r _ [7, 8, 9, 10, 11, 12, 13, 14, 15, 16, 17, 18, 19, 20, 21, 22, 23, 24, 25, 105, 106, 107, 108, 109, 110, 111, 112, 113, 114, 115, 116, 117, 118, 119] (by decide +kernel) (by decide +kernel)
set_option maxRecDepth 20000 in
theorem gX4_view_X2_become : GoodIn wsX4_view (wsV RX4 84 RX2 yX2_become wsX2_become) := goodIn_app (goodIn_of _ (by decide +kernel)) ggX4_view_X2_become
set_option maxRecDepth 20000 in
theorem ggX4_view_X2_gainedBy : GoodIn wsX4_view wsX2_gainedBy := goodIn_r _ [29, 24, 30, 31, 32, 6, 33, 8, 21, 34, 22, 35, 36, 37, 38, 39, 40, 41, 42, 15, 19, 20, 17, 18, 43, 44, 45, 46, 16, 47, 48, 49, 50, 25, 51, 52, 53, 54, 13, 55, 56, 57, 58, 59, 60, 61, 62, 63, 64, 65, 66, 67, 68, 69, 70, 14, 71, 72, 73, 74, 75, 76, 77, 78, 79, 80, 81, 82, 83, 84, 85, 86, 87, 88, 89, 105, 106, 107, 108, 109, 110, 111, 112, 113, 114, 115, 116, 117, 118, 119] (by decide +kernel) (by decide +kernel)
set_option maxRecDepth 20000 in
theorem gX4_view_X2_gainedBy : GoodIn wsX4_view (wsV RX4 158 RX2 yX2_gainedBy wsX2_gainedBy) := goodIn_app (goodIn_of _ (by decide +kernel)) ggX4_view_X2_gainedBy
theorem dX4_view_0 : decode cX4_view 0 = .ok (.iload_n 1, 1) := by decide +kernel
theorem dX4_view_1 : decode cX4_view 1 = .ok (.ifCond .lt 9, 3) := by decide +kernel
theorem dX4_view_4 : decode cX4_view 4 = .ok (.iload_n 1, 1) := by decide +kernel
theorem dX4_view_5 : decode cX4_view 5 = .ok (.bipush 60, 2) := by decide +kernel
theorem dX4_view_7 : decode cX4_view 7 = .ok (.if_icmp .le 5, 3) := by decide +kernel
theorem dX4_view_10 : decode cX4_view 10 = .ok (.iconst (-1), 1) := by decide +kernel
theorem dX4_view_11 : decode cX4_view 11 = .ok (.ireturn, 1) := by decide +kernel
theorem dX4_view_12 : decode cX4_view 12 = .ok (.aload_n 0, 1) := by decide +kernel
theorem dX4_view_13 : decode cX4_view 13 = .ok (.getfield 16, 3) := by decide +kernel
theorem dX4_view_16 : decode cX4_view 16 = .ok (.aload_n 0, 1) := by decide +kernel
theorem dX4_view_17 : decode cX4_view 17 = .ok (.getfield 12, 3) := by decide +kernel
theorem dX4_view_20 : decode cX4_view 20 = .ok (.invokevirtual 84, 3) := by decide +kernel
theorem dX4_view_23 : decode cX4_view 23 = .ok (.aload_n 0, 1) := by decide +kernel
theorem dX4_view_24 : decode cX4_view 24 = .ok (.getfield 16, 3) := by decide +kernel
theorem dX4_view_27 : decode cX4_view 27 = .ok (.iload_n 1, 1) := by decide +kernel
theorem dX4_view_28 : decode cX4_view 28 = .ok (.invokevirtual 158, 3) := by decide +kernel
theorem dX4_view_31 : decode cX4_view 31 = .ok (.ireturn, 1) := by decide +kernel
set_option maxRecDepth 20000 in
theorem ggX4_stays_X4_isName : GoodIn wsX4_stays wsX4_isName := goodIn_r _ [5, 6, 7, 8, 9, 4, 10, 99, 100, 101, 102, 103, 104, 105, 106, 107, 108, 109, 110, 111, 112, 113, 114, 115, 116, 117, 118, 119, 120, 121, 122, 123, 124, 125, 126, 127, 128] (by decide +kernel) (by decide +kernel)
set_option maxRecDepth 20000 in
theorem gX4_stays_X4_isName : GoodIn wsX4_stays (wsV RX4 105 RX4 yX4_isName wsX4_isName) := goodIn_app (goodIn_of _ (by decide +kernel)) ggX4_stays_X4_isName
set_option maxRecDepth 20000 in
theorem ggX4_stays_X4_nightsUntil : GoodIn wsX4_stays wsX4_nightsUntil := goodIn_r _ [14, 15, 6, 16, 17, 18, 19, 20, 21, 22, 23, 24, 25, 26, 27, 28, 29, 30, 31, 32, 33, 34, 35, 36, 37, 38, 39, 40, 41, 42, 43, 44, 45, 46, 47, 48, 49, 50, 51, 52, 53, 54, 55, 56, 57, 58, 59, 60, 61, 62, 63, 64, 65, 66, 67, 68, 69, 4, 70, 71, 72, 73, 74, 75, 76, 77, 78, 79, 80, 81, 82, 83, 84, 85, 86, 87, 88, 89, 90, 91, 92, 93, 94, 95, 96, 97, 98, 99, 100, 101, 102, 103, 104, 105, 106, 107, 108, 109, 110, 111, 112, 113, 114, 115, 116, 117, 118, 119, 120, 121, 122, 123, 124, 125, 126, 127, 128] (by decide +kernel) (by decide +kernel)
set_option maxRecDepth 20000 in
theorem gX4_stays_X4_nightsUntil : GoodIn wsX4_stays (wsV RX4 176 RX4 yX4_nightsUntil wsX4_nightsUntil) := goodIn_app (goodIn_of _ (by decide +kernel)) ggX4_stays_X4_nightsUntil
theorem dX4_stays_0 : decode cX4_stays 0 = .ok (.aload_n 0, 1) := by decide +kernel
theorem dX4_stays_1 : decode cX4_stays 1 = .ok (.iload_n 1, 1) := by decide +kernel
theorem dX4_stays_2 : decode cX4_stays 2 = .ok (.invokevirtual 105, 3) := by decide +kernel
theorem dX4_stays_5 : decode cX4_stays 5 = .ok (.ifCond .eq 12, 3) := by decide +kernel
theorem dX4_stays_8 : decode cX4_stays 8 = .ok (.aload_n 0, 1) := by decide +kernel
theorem dX4_stays_9 : decode cX4_stays 9 = .ok (.iload_n 1, 1) := by decide +kernel
theorem dX4_stays_10 : decode cX4_stays 10 = .ok (.iconst 1, 1) := by decide +kernel
theorem dX4_stays_11 : decode cX4_stays 11 = .ok (.invokevirtual 176, 3) := by decide +kernel
theorem dX4_stays_14 : decode cX4_stays 14 = .ok (.goto 4, 3) := by decide +kernel
theorem dX4_stays_17 : decode cX4_stays 17 = .ok (.iconst (-1), 1) := by decide +kernel
theorem dX4_stays_18 : decode cX4_stays 18 = .ok (.ireturn, 1) := by decide +kernel
set_option maxRecDepth 20000 in
theorem ggX4_comes_X4_isName : GoodIn wsX4_comes wsX4_isName := goodIn_r _ [5, 6, 7, 8, 9, 4, 10, 99, 100, 101, 102, 103, 104, 105, 106, 107, 108, 109, 110, 111, 112, 113, 114, 115, 116, 117, 118, 119, 120, 121, 122, 123, 124, 125, 126, 127, 128] (by decide +kernel) (by decide +kernel)
set_option maxRecDepth 20000 in
theorem gX4_comes_X4_isName : GoodIn wsX4_comes (wsV RX4 105 RX4 yX4_isName wsX4_isName) := goodIn_app (goodIn_of _ (by decide +kernel)) ggX4_comes_X4_isName
set_option maxRecDepth 20000 in
theorem ggX4_comes_X4_nightsUntil : GoodIn wsX4_comes wsX4_nightsUntil := goodIn_r _ [14, 15, 6, 16, 17, 18, 19, 20, 21, 22, 23, 24, 25, 26, 27, 28, 29, 30, 31, 32, 33, 34, 35, 36, 37, 38, 39, 40, 41, 42, 43, 44, 45, 46, 47, 48, 49, 50, 51, 52, 53, 54, 55, 56, 57, 58, 59, 60, 61, 62, 63, 64, 65, 66, 67, 68, 69, 4, 70, 71, 72, 73, 74, 75, 76, 77, 78, 79, 80, 81, 82, 83, 84, 85, 86, 87, 88, 89, 90, 91, 92, 93, 94, 95, 96, 97, 98, 99, 100, 101, 102, 103, 104, 105, 106, 107, 108, 109, 110, 111, 112, 113, 114, 115, 116, 117, 118, 119, 120, 121, 122, 123, 124, 125, 126, 127, 128] (by decide +kernel) (by decide +kernel)
set_option maxRecDepth 20000 in
theorem gX4_comes_X4_nightsUntil : GoodIn wsX4_comes (wsV RX4 176 RX4 yX4_nightsUntil wsX4_nightsUntil) := goodIn_app (goodIn_of _ (by decide +kernel)) ggX4_comes_X4_nightsUntil
theorem dX4_comes_0 : decode cX4_comes 0 = .ok (.aload_n 0, 1) := by decide +kernel
theorem dX4_comes_1 : decode cX4_comes 1 = .ok (.iload_n 1, 1) := by decide +kernel
theorem dX4_comes_2 : decode cX4_comes 2 = .ok (.invokevirtual 105, 3) := by decide +kernel
theorem dX4_comes_5 : decode cX4_comes 5 = .ok (.ifCond .eq 12, 3) := by decide +kernel
theorem dX4_comes_8 : decode cX4_comes 8 = .ok (.aload_n 0, 1) := by decide +kernel
theorem dX4_comes_9 : decode cX4_comes 9 = .ok (.iload_n 1, 1) := by decide +kernel
theorem dX4_comes_10 : decode cX4_comes 10 = .ok (.iconst 0, 1) := by decide +kernel
theorem dX4_comes_11 : decode cX4_comes 11 = .ok (.invokevirtual 176, 3) := by decide +kernel
theorem dX4_comes_14 : decode cX4_comes 14 = .ok (.goto 4, 3) := by decide +kernel
theorem dX4_comes_17 : decode cX4_comes 17 = .ok (.iconst (-1), 1) := by decide +kernel
theorem dX4_comes_18 : decode cX4_comes 18 = .ok (.ireturn, 1) := by decide +kernel
set_option maxRecDepth 20000 in
theorem ggX4_nightsUntil_X2_become : GoodIn wsX4_nightsUntil wsX2_become := goodIn_r _ [8, 9, 10, 11, 12, 13, 14, 15, 16, 17, 18, 19, 20, 21, 22, 23, 24, 25, 26, 102, 103, 104, 105, 106, 107, 108, 109, 110, 111, 112, 113, 114, 115, 116] (by decide +kernel) (by decide +kernel)
set_option maxRecDepth 20000 in
theorem gX4_nightsUntil_X2_become : GoodIn wsX4_nightsUntil (wsV RX4 84 RX2 yX2_become wsX2_become) := goodIn_app (goodIn_of _ (by decide +kernel)) ggX4_nightsUntil_X2_become
set_option maxRecDepth 20000 in
theorem ggX4_nightsUntil_X2_passNight : GoodIn wsX4_nightsUntil wsX2_passNight := goodIn_r _ [30, 9, 22, 31, 23, 32, 33, 34, 35, 25, 36, 37, 38, 7, 39, 16, 20, 21, 18, 19, 40, 41, 42, 43, 17, 44, 45, 46, 47, 26, 48, 49, 50, 51, 14, 52, 53, 54, 55, 56, 57, 58, 59, 60, 61, 62, 63, 64, 65, 66, 67, 15, 68, 69, 70, 71, 72, 73, 74, 75, 76, 77, 78, 79, 80, 81, 82, 83, 84, 85, 86, 102, 103, 104, 105, 106, 107, 108, 109, 110, 111, 112, 113, 114, 115, 116] (by decide +kernel) (by decide +kernel)
set_option maxRecDepth 20000 in
theorem gX4_nightsUntil_X2_passNight : GoodIn wsX4_nightsUntil (wsV RX4 149 RX2 yX2_passNight wsX2_passNight) := goodIn_app (goodIn_of _ (by decide +kernel)) ggX4_nightsUntil_X2_passNight
theorem dX4_nightsUntil_0 : decode cX4_nightsUntil 0 = .ok (.aload_n 0, 1) := by decide +kernel
theorem dX4_nightsUntil_1 : decode cX4_nightsUntil 1 = .ok (.getfield 16, 3) := by decide +kernel
theorem dX4_nightsUntil_4 : decode cX4_nightsUntil 4 = .ok (.aload_n 0, 1) := by decide +kernel
theorem dX4_nightsUntil_5 : decode cX4_nightsUntil 5 = .ok (.getfield 12, 3) := by decide +kernel
theorem dX4_nightsUntil_8 : decode cX4_nightsUntil 8 = .ok (.invokevirtual 84, 3) := by decide +kernel
theorem dX4_nightsUntil_11 : decode cX4_nightsUntil 11 = .ok (.iconst 0, 1) := by decide +kernel
theorem dX4_nightsUntil_12 : decode cX4_nightsUntil 12 = .ok (.istore_n 3, 1) := by decide +kernel
theorem dX4_nightsUntil_13 : decode cX4_nightsUntil 13 = .ok (.iload_n 3, 1) := by decide +kernel
theorem dX4_nightsUntil_14 : decode cX4_nightsUntil 14 = .ok (.bipush 60, 2) := by decide +kernel
theorem dX4_nightsUntil_16 : decode cX4_nightsUntil 16 = .ok (.if_icmp .gt 41, 3) := by decide +kernel
theorem dX4_nightsUntil_19 : decode cX4_nightsUntil 19 = .ok (.aload_n 0, 1) := by decide +kernel
theorem dX4_nightsUntil_20 : decode cX4_nightsUntil 20 = .ok (.getfield 16, 3) := by decide +kernel
theorem dX4_nightsUntil_23 : decode cX4_nightsUntil 23 = .ok (.getfield 118, 3) := by decide +kernel
theorem dX4_nightsUntil_26 : decode cX4_nightsUntil 26 = .ok (.iload_n 1, 1) := by decide +kernel
theorem dX4_nightsUntil_27 : decode cX4_nightsUntil 27 = .ok (.iaload, 1) := by decide +kernel
theorem dX4_nightsUntil_28 : decode cX4_nightsUntil 28 = .ok (.bipush 10, 2) := by decide +kernel
theorem dX4_nightsUntil_30 : decode cX4_nightsUntil 30 = .ok (.if_icmp .ne 7, 3) := by decide +kernel
theorem dX4_nightsUntil_33 : decode cX4_nightsUntil 33 = .ok (.iconst 1, 1) := by decide +kernel
theorem dX4_nightsUntil_34 : decode cX4_nightsUntil 34 = .ok (.goto 4, 3) := by decide +kernel
theorem dX4_nightsUntil_37 : decode cX4_nightsUntil 37 = .ok (.iconst 0, 1) := by decide +kernel
theorem dX4_nightsUntil_38 : decode cX4_nightsUntil 38 = .ok (.iload_n 2, 1) := by decide +kernel
theorem dX4_nightsUntil_39 : decode cX4_nightsUntil 39 = .ok (.if_icmp .ne 5, 3) := by decide +kernel
theorem dX4_nightsUntil_42 : decode cX4_nightsUntil 42 = .ok (.iload_n 3, 1) := by decide +kernel
theorem dX4_nightsUntil_43 : decode cX4_nightsUntil 43 = .ok (.ireturn, 1) := by decide +kernel
theorem dX4_nightsUntil_44 : decode cX4_nightsUntil 44 = .ok (.aload_n 0, 1) := by decide +kernel
theorem dX4_nightsUntil_45 : decode cX4_nightsUntil 45 = .ok (.getfield 16, 3) := by decide +kernel
theorem dX4_nightsUntil_48 : decode cX4_nightsUntil 48 = .ok (.invokevirtual 149, 3) := by decide +kernel
theorem dX4_nightsUntil_51 : decode cX4_nightsUntil 51 = .ok (.iinc 3 1, 3) := by decide +kernel
theorem dX4_nightsUntil_54 : decode cX4_nightsUntil 54 = .ok (.goto (-41), 3) := by decide +kernel
theorem dX4_nightsUntil_57 : decode cX4_nightsUntil 57 = .ok (.bipush (-3), 2) := by decide +kernel
theorem dX4_nightsUntil_59 : decode cX4_nightsUntil 59 = .ok (.ireturn, 1) := by decide +kernel
set_option maxRecDepth 20000 in
theorem ggX4_clear_X2_become : GoodIn wsX4_clear wsX2_become := goodIn_r _ [7, 8, 9, 10, 11, 12, 13, 14, 15, 16, 17, 18, 19, 20, 21, 22, 23, 24, 25, 102, 103, 104, 105, 106, 107, 108, 109, 110, 111, 112, 113, 114, 115, 116] (by decide +kernel) (by decide +kernel)
set_option maxRecDepth 20000 in
theorem gX4_clear_X2_become : GoodIn wsX4_clear (wsV RX4 84 RX2 yX2_become wsX2_become) := goodIn_app (goodIn_of _ (by decide +kernel)) ggX4_clear_X2_become
set_option maxRecDepth 20000 in
theorem ggX4_clear_X2_looksOfAll : GoodIn wsX4_clear wsX2_looksOfAll := goodIn_r _ [29, 15, 19, 14, 18, 102, 103, 104, 105, 106, 107, 108, 109, 110, 111, 112, 113, 114, 115, 116] (by decide +kernel) (by decide +kernel)
set_option maxRecDepth 20000 in
theorem gX4_clear_X2_looksOfAll : GoodIn wsX4_clear (wsV RX4 152 RX2 yX2_looksOfAll wsX2_looksOfAll) := goodIn_app (goodIn_of _ (by decide +kernel)) ggX4_clear_X2_looksOfAll
set_option maxRecDepth 20000 in
theorem ggX4_clear_X2_passNight : GoodIn wsX4_clear wsX2_passNight := goodIn_r _ [33, 8, 21, 34, 22, 35, 36, 37, 38, 24, 39, 40, 41, 6, 42, 15, 19, 20, 17, 18, 43, 44, 45, 46, 16, 47, 48, 49, 50, 25, 51, 52, 53, 54, 13, 55, 56, 57, 58, 59, 60, 61, 62, 63, 64, 65, 66, 67, 68, 69, 70, 14, 71, 72, 73, 74, 75, 76, 77, 78, 79, 80, 81, 82, 83, 84, 85, 86, 27, 28, 29, 102, 103, 104, 105, 106, 107, 108, 109, 110, 111, 112, 113, 114, 115, 116] (by decide +kernel) (by decide +kernel)
set_option maxRecDepth 20000 in
theorem gX4_clear_X2_passNight : GoodIn wsX4_clear (wsV RX4 149 RX2 yX2_passNight wsX2_passNight) := goodIn_app (goodIn_of _ (by decide +kernel)) ggX4_clear_X2_passNight
theorem dX4_clear_0 : decode cX4_clear 0 = .ok (.aload_n 0, 1) := by decide +kernel
theorem dX4_clear_1 : decode cX4_clear 1 = .ok (.getfield 16, 3) := by decide +kernel
theorem dX4_clear_4 : decode cX4_clear 4 = .ok (.aload_n 0, 1) := by decide +kernel
theorem dX4_clear_5 : decode cX4_clear 5 = .ok (.getfield 12, 3) := by decide +kernel
theorem dX4_clear_8 : decode cX4_clear 8 = .ok (.invokevirtual 84, 3) := by decide +kernel
theorem dX4_clear_11 : decode cX4_clear 11 = .ok (.iconst 0, 1) := by decide +kernel
theorem dX4_clear_12 : decode cX4_clear 12 = .ok (.istore_n 1, 1) := by decide +kernel
theorem dX4_clear_13 : decode cX4_clear 13 = .ok (.iload_n 1, 1) := by decide +kernel
theorem dX4_clear_14 : decode cX4_clear 14 = .ok (.bipush 60, 2) := by decide +kernel
theorem dX4_clear_16 : decode cX4_clear 16 = .ok (.if_icmp .gt 28, 3) := by decide +kernel
theorem dX4_clear_19 : decode cX4_clear 19 = .ok (.aload_n 0, 1) := by decide +kernel
theorem dX4_clear_20 : decode cX4_clear 20 = .ok (.getfield 16, 3) := by decide +kernel
theorem dX4_clear_23 : decode cX4_clear 23 = .ok (.invokevirtual 152, 3) := by decide +kernel
theorem dX4_clear_26 : decode cX4_clear 26 = .ok (.ifCond .ne 5, 3) := by decide +kernel
theorem dX4_clear_29 : decode cX4_clear 29 = .ok (.iload_n 1, 1) := by decide +kernel
theorem dX4_clear_30 : decode cX4_clear 30 = .ok (.ireturn, 1) := by decide +kernel
theorem dX4_clear_31 : decode cX4_clear 31 = .ok (.aload_n 0, 1) := by decide +kernel
theorem dX4_clear_32 : decode cX4_clear 32 = .ok (.getfield 16, 3) := by decide +kernel
theorem dX4_clear_35 : decode cX4_clear 35 = .ok (.invokevirtual 149, 3) := by decide +kernel
theorem dX4_clear_38 : decode cX4_clear 38 = .ok (.iinc 1 1, 3) := by decide +kernel
theorem dX4_clear_41 : decode cX4_clear 41 = .ok (.goto (-28), 3) := by decide +kernel
theorem dX4_clear_44 : decode cX4_clear 44 = .ok (.bipush (-3), 2) := by decide +kernel
theorem dX4_clear_46 : decode cX4_clear 46 = .ok (.ireturn, 1) := by decide +kernel
set_option maxRecDepth 20000 in
theorem ggX4_firstFor_X4_bestOf : GoodIn wsX4_firstFor wsX4_bestOf := goodIn_r _ [5, 6, 7, 8, 9, 10, 11, 12, 13, 14, 15, 16, 17, 18, 19, 20, 21, 22, 23, 24, 25, 26, 27, 28, 29, 30, 31, 32, 33, 34, 35, 36, 37, 38, 39, 40, 41, 42, 43, 44, 45, 46, 47, 48, 49, 50, 51, 52, 53, 54, 55, 56, 57, 58, 59, 60, 61, 62, 63, 64, 65, 66, 67, 68, 69, 70, 71, 72, 73, 74, 75, 76, 77, 78, 79, 80, 81, 4, 82, 83, 84, 85, 86, 87, 88, 89, 90, 91, 92, 93, 94, 95, 96, 97, 98, 99, 100, 101, 102, 103, 104, 105, 106, 107, 108, 109, 110, 111, 112, 113, 114, 115, 116, 117, 118, 119, 120, 121, 122, 123, 124, 125, 126] (by decide +kernel) (by decide +kernel)
set_option maxRecDepth 20000 in
theorem gX4_firstFor_X4_bestOf : GoodIn wsX4_firstFor (wsV RX4 180 RX4 yX4_bestOf wsX4_bestOf) := goodIn_app (goodIn_of _ (by decide +kernel)) ggX4_firstFor_X4_bestOf
theorem dX4_firstFor_0 : decode cX4_firstFor 0 = .ok (.iload_n 1, 1) := by decide +kernel
theorem dX4_firstFor_1 : decode cX4_firstFor 1 = .ok (.iconst 1, 1) := by decide +kernel
theorem dX4_firstFor_2 : decode cX4_firstFor 2 = .ok (.if_icmp .lt 9, 3) := by decide +kernel
theorem dX4_firstFor_5 : decode cX4_firstFor 5 = .ok (.iload_n 1, 1) := by decide +kernel
theorem dX4_firstFor_6 : decode cX4_firstFor 6 = .ok (.bipush 30, 2) := by decide +kernel
theorem dX4_firstFor_8 : decode cX4_firstFor 8 = .ok (.if_icmp .le 7, 3) := by decide +kernel
theorem dX4_firstFor_11 : decode cX4_firstFor 11 = .ok (.iconst (-1), 1) := by decide +kernel
theorem dX4_firstFor_12 : decode cX4_firstFor 12 = .ok (.goto 12, 3) := by decide +kernel
theorem dX4_firstFor_15 : decode cX4_firstFor 15 = .ok (.aload_n 0, 1) := by decide +kernel
theorem dX4_firstFor_16 : decode cX4_firstFor 16 = .ok (.iconst 0, 1) := by decide +kernel
theorem dX4_firstFor_17 : decode cX4_firstFor 17 = .ok (.iconst 0, 1) := by decide +kernel
theorem dX4_firstFor_18 : decode cX4_firstFor 18 = .ok (.bipush 10, 2) := by decide +kernel
theorem dX4_firstFor_20 : decode cX4_firstFor 20 = .ok (.iload_n 1, 1) := by decide +kernel
theorem dX4_firstFor_21 : decode cX4_firstFor 21 = .ok (.invokevirtual 180, 3) := by decide +kernel
theorem dX4_firstFor_24 : decode cX4_firstFor 24 = .ok (.ireturn, 1) := by decide +kernel
set_option maxRecDepth 20000 in
theorem ggX4_groundFor_X4_isBelow : GoodIn wsX4_groundFor wsX4_isBelow := goodIn_r _ [4] (by decide +kernel) (by decide +kernel)
set_option maxRecDepth 20000 in
theorem gX4_groundFor_X4_isBelow : GoodIn wsX4_groundFor (va_wsS RX4 91 yX4_isBelow wsX4_isBelow) := goodIn_app (goodIn_of _ (by decide +kernel)) ggX4_groundFor_X4_isBelow
set_option maxRecDepth 20000 in
theorem ggX4_groundFor_X4_bestOf : GoodIn wsX4_groundFor wsX4_bestOf := goodIn_r _ [8, 9, 10, 11, 12, 13, 14, 15, 16, 17, 18, 19, 20, 21, 22, 23, 24, 25, 26, 27, 28, 29, 30, 31, 32, 33, 34, 35, 36, 37, 38, 39, 40, 41, 42, 43, 44, 45, 46, 47, 48, 49, 50, 51, 52, 53, 54, 55, 56, 57, 58, 59, 60, 61, 62, 63, 64, 65, 66, 67, 68, 69, 70, 71, 72, 73, 74, 75, 76, 77, 78, 79, 80, 81, 82, 83, 84, 3, 85, 86, 87, 88, 89, 90, 91, 92, 93, 94, 95, 96, 97, 98, 99, 100, 101, 102, 103, 104, 105, 106, 107, 108, 109, 110, 111, 112, 113, 114, 115, 116, 117, 118, 119, 120, 121, 122, 123, 124, 125, 126, 127, 128, 129] (by decide +kernel) (by decide +kernel)
set_option maxRecDepth 20000 in
theorem gX4_groundFor_X4_bestOf : GoodIn wsX4_groundFor (wsV RX4 180 RX4 yX4_bestOf wsX4_bestOf) := goodIn_app (goodIn_of _ (by decide +kernel)) ggX4_groundFor_X4_bestOf
theorem dX4_groundFor_0 : decode cX4_groundFor 0 = .ok (.iload_n 1, 1) := by decide +kernel
theorem dX4_groundFor_1 : decode cX4_groundFor 1 = .ok (.bipush 10, 2) := by decide +kernel
theorem dX4_groundFor_3 : decode cX4_groundFor 3 = .ok (.invokestatic 91, 3) := by decide +kernel
theorem dX4_groundFor_6 : decode cX4_groundFor 6 = .ok (.ifCond .eq 14, 3) := by decide +kernel
theorem dX4_groundFor_9 : decode cX4_groundFor 9 = .ok (.iload_n 2, 1) := by decide +kernel
theorem dX4_groundFor_10 : decode cX4_groundFor 10 = .ok (.iconst 1, 1) := by decide +kernel
theorem dX4_groundFor_11 : decode cX4_groundFor 11 = .ok (.if_icmp .lt 9, 3) := by decide +kernel
theorem dX4_groundFor_14 : decode cX4_groundFor 14 = .ok (.iload_n 2, 1) := by decide +kernel
theorem dX4_groundFor_15 : decode cX4_groundFor 15 = .ok (.bipush 30, 2) := by decide +kernel
theorem dX4_groundFor_17 : decode cX4_groundFor 17 = .ok (.if_icmp .le 7, 3) := by decide +kernel
theorem dX4_groundFor_20 : decode cX4_groundFor 20 = .ok (.iconst (-1), 1) := by decide +kernel
theorem dX4_groundFor_21 : decode cX4_groundFor 21 = .ok (.goto 11, 3) := by decide +kernel
theorem dX4_groundFor_24 : decode cX4_groundFor 24 = .ok (.aload_n 0, 1) := by decide +kernel
theorem dX4_groundFor_25 : decode cX4_groundFor 25 = .ok (.iconst 1, 1) := by decide +kernel
theorem dX4_groundFor_26 : decode cX4_groundFor 26 = .ok (.iload_n 1, 1) := by decide +kernel
theorem dX4_groundFor_27 : decode cX4_groundFor 27 = .ok (.iconst 3, 1) := by decide +kernel
theorem dX4_groundFor_28 : decode cX4_groundFor 28 = .ok (.iload_n 2, 1) := by decide +kernel
theorem dX4_groundFor_29 : decode cX4_groundFor 29 = .ok (.invokevirtual 180, 3) := by decide +kernel
theorem dX4_groundFor_32 : decode cX4_groundFor 32 = .ok (.ireturn, 1) := by decide +kernel
set_option maxRecDepth 20000 in
theorem ggX4_kindFor_X4_isName : GoodIn wsX4_kindFor wsX4_isName := goodIn_r _ [5, 6, 7, 8, 9, 4, 10, 105, 106, 107, 108, 109, 110, 111, 112, 113, 114, 115, 116, 117, 118, 119, 120, 121, 122, 123, 124, 125, 126, 127, 128, 129, 130, 131, 132, 133, 134] (by decide +kernel) (by decide +kernel)
set_option maxRecDepth 20000 in
theorem gX4_kindFor_X4_isName : GoodIn wsX4_kindFor (wsV RX4 105 RX4 yX4_isName wsX4_isName) := goodIn_app (goodIn_of _ (by decide +kernel)) ggX4_kindFor_X4_isName
set_option maxRecDepth 20000 in
theorem ggX4_kindFor_X4_bestOf : GoodIn wsX4_kindFor wsX4_bestOf := goodIn_r _ [14, 15, 6, 16, 17, 18, 19, 20, 21, 22, 23, 24, 25, 26, 27, 28, 29, 30, 31, 32, 33, 34, 35, 36, 37, 38, 39, 40, 41, 42, 43, 44, 45, 46, 47, 48, 49, 50, 51, 52, 53, 54, 55, 56, 57, 58, 59, 60, 61, 62, 63, 64, 65, 66, 67, 68, 69, 70, 71, 72, 73, 74, 75, 76, 77, 78, 79, 80, 81, 82, 83, 84, 85, 86, 87, 88, 89, 4, 90, 91, 92, 93, 94, 95, 96, 97, 98, 99, 100, 101, 102, 103, 104, 105, 106, 107, 108, 109, 110, 111, 112, 113, 114, 115, 116, 117, 118, 119, 120, 121, 122, 123, 124, 125, 126, 127, 128, 129, 130, 131, 132, 133, 134] (by decide +kernel) (by decide +kernel)
set_option maxRecDepth 20000 in
theorem gX4_kindFor_X4_bestOf : GoodIn wsX4_kindFor (wsV RX4 180 RX4 yX4_bestOf wsX4_bestOf) := goodIn_app (goodIn_of _ (by decide +kernel)) ggX4_kindFor_X4_bestOf
theorem dX4_kindFor_0 : decode cX4_kindFor 0 = .ok (.aload_n 0, 1) := by decide +kernel
theorem dX4_kindFor_1 : decode cX4_kindFor 1 = .ok (.iload_n 1, 1) := by decide +kernel
theorem dX4_kindFor_2 : decode cX4_kindFor 2 = .ok (.invokevirtual 105, 3) := by decide +kernel
theorem dX4_kindFor_5 : decode cX4_kindFor 5 = .ok (.ifCond .eq 14, 3) := by decide +kernel
theorem dX4_kindFor_8 : decode cX4_kindFor 8 = .ok (.iload_n 2, 1) := by decide +kernel
theorem dX4_kindFor_9 : decode cX4_kindFor 9 = .ok (.iconst 1, 1) := by decide +kernel
theorem dX4_kindFor_10 : decode cX4_kindFor 10 = .ok (.if_icmp .lt 9, 3) := by decide +kernel
theorem dX4_kindFor_13 : decode cX4_kindFor 13 = .ok (.iload_n 2, 1) := by decide +kernel
theorem dX4_kindFor_14 : decode cX4_kindFor 14 = .ok (.bipush 30, 2) := by decide +kernel
theorem dX4_kindFor_16 : decode cX4_kindFor 16 = .ok (.if_icmp .le 7, 3) := by decide +kernel
theorem dX4_kindFor_19 : decode cX4_kindFor 19 = .ok (.iconst (-1), 1) := by decide +kernel
theorem dX4_kindFor_20 : decode cX4_kindFor 20 = .ok (.goto 12, 3) := by decide +kernel
theorem dX4_kindFor_23 : decode cX4_kindFor 23 = .ok (.aload_n 0, 1) := by decide +kernel
theorem dX4_kindFor_24 : decode cX4_kindFor 24 = .ok (.iconst 2, 1) := by decide +kernel
theorem dX4_kindFor_25 : decode cX4_kindFor 25 = .ok (.iload_n 1, 1) := by decide +kernel
theorem dX4_kindFor_26 : decode cX4_kindFor 26 = .ok (.bipush 6, 2) := by decide +kernel
theorem dX4_kindFor_28 : decode cX4_kindFor 28 = .ok (.iload_n 2, 1) := by decide +kernel
theorem dX4_kindFor_29 : decode cX4_kindFor 29 = .ok (.invokevirtual 180, 3) := by decide +kernel
theorem dX4_kindFor_32 : decode cX4_kindFor 32 = .ok (.ireturn, 1) := by decide +kernel
set_option maxRecDepth 20000 in
theorem ggX4_bestOf_X2_become : GoodIn wsX4_bestOf wsX2_become := goodIn_r _ [9, 10, 11, 12, 13, 14, 15, 16, 17, 18, 19, 20, 21, 22, 23, 24, 25, 26, 27, 108, 109, 110, 111, 112, 113, 114, 115, 116, 117, 118, 119, 120, 121, 122] (by decide +kernel) (by decide +kernel)
set_option maxRecDepth 20000 in
theorem gX4_bestOf_X2_become : GoodIn wsX4_bestOf (wsV RX4 84 RX2 yX2_become wsX2_become) := goodIn_app (goodIn_of _ (by decide +kernel)) ggX4_bestOf_X2_become
set_option maxRecDepth 20000 in
theorem ggX4_bestOf_X2_cleanWall : GoodIn wsX4_bestOf wsX2_cleanWall := goodIn_r _ [31, 15, 17, 21, 18, 10, 22, 32, 33, 34, 8, 35, 20, 19, 36, 37, 38, 39, 40, 41, 42, 43, 44, 45, 46, 108, 109, 110, 111, 112, 113, 114, 115, 116, 117, 118, 119, 120, 121, 122] (by decide +kernel) (by decide +kernel)
set_option maxRecDepth 20000 in
theorem gX4_bestOf_X2_cleanWall : GoodIn wsX4_bestOf (wsV RX4 146 RX2 yX2_cleanWall wsX2_cleanWall) := goodIn_app (goodIn_of _ (by decide +kernel)) ggX4_bestOf_X2_cleanWall
set_option maxRecDepth 20000 in
theorem ggX4_bestOf_X2_gainedBy : GoodIn wsX4_bestOf wsX2_gainedBy := goodIn_r _ [50, 26, 51, 52, 53, 8, 54, 10, 23, 55, 24, 56, 57, 58, 59, 60, 61, 62, 63, 17, 21, 22, 19, 20, 64, 65, 66, 67, 18, 68, 69, 70, 71, 27, 72, 73, 74, 75, 15, 36, 37, 38, 39, 76, 77, 78, 79, 80, 81, 82, 83, 84, 85, 86, 87, 16, 88, 29, 30, 31, 32, 33, 34, 35, 40, 41, 42, 43, 44, 45, 46, 89, 90, 91, 92, 108, 109, 110, 111, 112, 113, 114, 115, 116, 117, 118, 119, 120, 121, 122] (by decide +kernel) (by decide +kernel)
set_option maxRecDepth 20000 in
theorem gX4_bestOf_X2_gainedBy : GoodIn wsX4_bestOf (wsV RX4 158 RX2 yX2_gainedBy wsX2_gainedBy) := goodIn_app (goodIn_of _ (by decide +kernel)) ggX4_bestOf_X2_gainedBy
theorem dX4_bestOf_0 : decode cX4_bestOf 0 = .ok (.iconst 0, 1) := by decide +kernel
theorem dX4_bestOf_1 : decode cX4_bestOf 1 = .ok (.istore 5, 2) := by decide +kernel
theorem dX4_bestOf_3 : decode cX4_bestOf 3 = .ok (.iconst 0, 1) := by decide +kernel
theorem dX4_bestOf_4 : decode cX4_bestOf 4 = .ok (.istore 6, 2) := by decide +kernel
theorem dX4_bestOf_6 : decode cX4_bestOf 6 = .ok (.iconst 0, 1) := by decide +kernel
theorem dX4_bestOf_7 : decode cX4_bestOf 7 = .ok (.istore 7, 2) := by decide +kernel
theorem dX4_bestOf_9 : decode cX4_bestOf 9 = .ok (.iload 7, 2) := by decide +kernel
theorem dX4_bestOf_11 : decode cX4_bestOf 11 = .ok (.iload_n 3, 1) := by decide +kernel
theorem dX4_bestOf_12 : decode cX4_bestOf 12 = .ok (.if_icmp .ge 115, 3) := by decide +kernel
theorem dX4_bestOf_15 : decode cX4_bestOf 15 = .ok (.aload_n 0, 1) := by decide +kernel
theorem dX4_bestOf_16 : decode cX4_bestOf 16 = .ok (.getfield 16, 3) := by decide +kernel
theorem dX4_bestOf_19 : decode cX4_bestOf 19 = .ok (.aload_n 0, 1) := by decide +kernel
theorem dX4_bestOf_20 : decode cX4_bestOf 20 = .ok (.getfield 12, 3) := by decide +kernel
theorem dX4_bestOf_23 : decode cX4_bestOf 23 = .ok (.invokevirtual 84, 3) := by decide +kernel
theorem dX4_bestOf_26 : decode cX4_bestOf 26 = .ok (.iload_n 1, 1) := by decide +kernel
theorem dX4_bestOf_27 : decode cX4_bestOf 27 = .ok (.lookupswitch 52 #[(0, 25), (1, 38)], 25) := by decide +kernel
theorem dX4_bestOf_52 : decode cX4_bestOf 52 = .ok (.aload_n 0, 1) := by decide +kernel
theorem dX4_bestOf_53 : decode cX4_bestOf 53 = .ok (.getfield 16, 3) := by decide +kernel
theorem dX4_bestOf_56 : decode cX4_bestOf 56 = .ok (.iload 7, 2) := by decide +kernel
theorem dX4_bestOf_58 : decode cX4_bestOf 58 = .ok (.invokevirtual 146, 3) := by decide +kernel
theorem dX4_bestOf_61 : decode cX4_bestOf 61 = .ok (.pop, 1) := by decide +kernel
theorem dX4_bestOf_62 : decode cX4_bestOf 62 = .ok (.goto 28, 3) := by decide +kernel
theorem dX4_bestOf_65 : decode cX4_bestOf 65 = .ok (.aload_n 0, 1) := by decide +kernel
theorem dX4_bestOf_66 : decode cX4_bestOf 66 = .ok (.getfield 16, 3) := by decide +kernel
theorem dX4_bestOf_69 : decode cX4_bestOf 69 = .ok (.getfield 134, 3) := by decide +kernel
theorem dX4_bestOf_72 : decode cX4_bestOf 72 = .ok (.iload_n 2, 1) := by decide +kernel
theorem dX4_bestOf_73 : decode cX4_bestOf 73 = .ok (.iload 7, 2) := by decide +kernel
theorem dX4_bestOf_75 : decode cX4_bestOf 75 = .ok (.iastore, 1) := by decide +kernel
theorem dX4_bestOf_76 : decode cX4_bestOf 76 = .ok (.goto 14, 3) := by decide +kernel
theorem dX4_bestOf_79 : decode cX4_bestOf 79 = .ok (.aload_n 0, 1) := by decide +kernel
theorem dX4_bestOf_80 : decode cX4_bestOf 80 = .ok (.getfield 16, 3) := by decide +kernel
theorem dX4_bestOf_83 : decode cX4_bestOf 83 = .ok (.getfield 109, 3) := by decide +kernel
theorem dX4_bestOf_86 : decode cX4_bestOf 86 = .ok (.iload_n 2, 1) := by decide +kernel
theorem dX4_bestOf_87 : decode cX4_bestOf 87 = .ok (.iload 7, 2) := by decide +kernel
theorem dX4_bestOf_89 : decode cX4_bestOf 89 = .ok (.iastore, 1) := by decide +kernel
theorem dX4_bestOf_90 : decode cX4_bestOf 90 = .ok (.aload_n 0, 1) := by decide +kernel
theorem dX4_bestOf_91 : decode cX4_bestOf 91 = .ok (.getfield 16, 3) := by decide +kernel
theorem dX4_bestOf_94 : decode cX4_bestOf 94 = .ok (.iload 4, 2) := by decide +kernel
theorem dX4_bestOf_96 : decode cX4_bestOf 96 = .ok (.invokevirtual 158, 3) := by decide +kernel
theorem dX4_bestOf_99 : decode cX4_bestOf 99 = .ok (.istore 8, 2) := by decide +kernel
theorem dX4_bestOf_101 : decode cX4_bestOf 101 = .ok (.iload 7, 2) := by decide +kernel
theorem dX4_bestOf_103 : decode cX4_bestOf 103 = .ok (.ifCond .eq 10, 3) := by decide +kernel
theorem dX4_bestOf_106 : decode cX4_bestOf 106 = .ok (.iload 8, 2) := by decide +kernel
theorem dX4_bestOf_108 : decode cX4_bestOf 108 = .ok (.iload 6, 2) := by decide +kernel
theorem dX4_bestOf_110 : decode cX4_bestOf 110 = .ok (.if_icmp .ge 11, 3) := by decide +kernel
theorem dX4_bestOf_113 : decode cX4_bestOf 113 = .ok (.iload 8, 2) := by decide +kernel
theorem dX4_bestOf_115 : decode cX4_bestOf 115 = .ok (.istore 6, 2) := by decide +kernel
theorem dX4_bestOf_117 : decode cX4_bestOf 117 = .ok (.iload 7, 2) := by decide +kernel
theorem dX4_bestOf_119 : decode cX4_bestOf 119 = .ok (.istore 5, 2) := by decide +kernel
theorem dX4_bestOf_121 : decode cX4_bestOf 121 = .ok (.iinc 7 1, 3) := by decide +kernel
theorem dX4_bestOf_124 : decode cX4_bestOf 124 = .ok (.goto (-115), 3) := by decide +kernel
theorem dX4_bestOf_127 : decode cX4_bestOf 127 = .ok (.iload 5, 2) := by decide +kernel
theorem dX4_bestOf_129 : decode cX4_bestOf 129 = .ok (.ireturn, 1) := by decide +kernel
set_option maxRecDepth 20000 in
theorem ggX4_bucketsFor_X2_become : GoodIn wsX4_bucketsFor wsX2_become := goodIn_r _ [10, 11, 12, 13, 14, 15, 16, 17, 18, 19, 20, 21, 22, 23, 24, 25, 26, 27, 28, 108, 109, 110, 111, 112, 113, 114, 115, 116, 117, 118, 119, 120, 121, 122] (by decide +kernel) (by decide +kernel)
set_option maxRecDepth 20000 in
theorem gX4_bucketsFor_X2_become : GoodIn wsX4_bucketsFor (wsV RX4 84 RX2 yX2_become wsX2_become) := goodIn_app (goodIn_of _ (by decide +kernel)) ggX4_bucketsFor_X2_become
set_option maxRecDepth 20000 in
theorem ggX4_bucketsFor_X2_gainsAtMost : GoodIn wsX4_bucketsFor wsX2_gainsAtMost := goodIn_r _ [32, 27, 33, 34, 35, 9, 36, 11, 24, 37, 25, 38, 39, 40, 41, 42, 43, 44, 45, 18, 22, 23, 20, 21, 46, 47, 48, 49, 19, 50, 51, 52, 53, 28, 54, 55, 56, 57, 16, 58, 59, 60, 61, 62, 63, 64, 65, 66, 67, 68, 69, 70, 71, 72, 73, 17, 74, 75, 76, 77, 78, 79, 80, 81, 82, 83, 84, 85, 86, 87, 88, 89, 90, 91, 92, 108, 109, 110, 111, 112, 113, 114, 115, 116, 117, 118, 119, 120, 121, 122] (by decide +kernel) (by decide +kernel)
set_option maxRecDepth 20000 in
theorem gX4_bucketsFor_X2_gainsAtMost : GoodIn wsX4_bucketsFor (wsV RX4 185 RX2 yX2_gainsAtMost wsX2_gainsAtMost) := goodIn_app (goodIn_of _ (by decide +kernel)) ggX4_bucketsFor_X2_gainsAtMost
theorem dX4_bucketsFor_0 : decode cX4_bucketsFor 0 = .ok (.iload_n 1, 1) := by decide +kernel
theorem dX4_bucketsFor_1 : decode cX4_bucketsFor 1 = .ok (.iconst 1, 1) := by decide +kernel
theorem dX4_bucketsFor_2 : decode cX4_bucketsFor 2 = .ok (.if_icmp .lt 19, 3) := by decide +kernel
theorem dX4_bucketsFor_5 : decode cX4_bucketsFor 5 = .ok (.iload_n 1, 1) := by decide +kernel
theorem dX4_bucketsFor_6 : decode cX4_bucketsFor 6 = .ok (.bipush 30, 2) := by decide +kernel
theorem dX4_bucketsFor_8 : decode cX4_bucketsFor 8 = .ok (.if_icmp .gt 13, 3) := by decide +kernel
theorem dX4_bucketsFor_11 : decode cX4_bucketsFor 11 = .ok (.iload_n 2, 1) := by decide +kernel
theorem dX4_bucketsFor_12 : decode cX4_bucketsFor 12 = .ok (.ifCond .lt 9, 3) := by decide +kernel
theorem dX4_bucketsFor_15 : decode cX4_bucketsFor 15 = .ok (.iload_n 2, 1) := by decide +kernel
theorem dX4_bucketsFor_16 : decode cX4_bucketsFor 16 = .ok (.ldc 184, 2) := by decide +kernel
theorem dX4_bucketsFor_18 : decode cX4_bucketsFor 18 = .ok (.if_icmp .le 5, 3) := by decide +kernel
theorem dX4_bucketsFor_21 : decode cX4_bucketsFor 21 = .ok (.iconst (-1), 1) := by decide +kernel
theorem dX4_bucketsFor_22 : decode cX4_bucketsFor 22 = .ok (.ireturn, 1) := by decide +kernel
theorem dX4_bucketsFor_23 : decode cX4_bucketsFor 23 = .ok (.iconst 0, 1) := by decide +kernel
theorem dX4_bucketsFor_24 : decode cX4_bucketsFor 24 = .ok (.istore_n 3, 1) := by decide +kernel
theorem dX4_bucketsFor_25 : decode cX4_bucketsFor 25 = .ok (.iload_n 3, 1) := by decide +kernel
theorem dX4_bucketsFor_26 : decode cX4_bucketsFor 26 = .ok (.getstatic 95, 3) := by decide +kernel
theorem dX4_bucketsFor_29 : decode cX4_bucketsFor 29 = .ok (.iconst 0, 1) := by decide +kernel
theorem dX4_bucketsFor_30 : decode cX4_bucketsFor 30 = .ok (.iaload, 1) := by decide +kernel
theorem dX4_bucketsFor_31 : decode cX4_bucketsFor 31 = .ok (.if_icmp .gt 44, 3) := by decide +kernel
theorem dX4_bucketsFor_34 : decode cX4_bucketsFor 34 = .ok (.aload_n 0, 1) := by decide +kernel
theorem dX4_bucketsFor_35 : decode cX4_bucketsFor 35 = .ok (.getfield 16, 3) := by decide +kernel
theorem dX4_bucketsFor_38 : decode cX4_bucketsFor 38 = .ok (.aload_n 0, 1) := by decide +kernel
theorem dX4_bucketsFor_39 : decode cX4_bucketsFor 39 = .ok (.getfield 12, 3) := by decide +kernel
theorem dX4_bucketsFor_42 : decode cX4_bucketsFor 42 = .ok (.invokevirtual 84, 3) := by decide +kernel
theorem dX4_bucketsFor_45 : decode cX4_bucketsFor 45 = .ok (.aload_n 0, 1) := by decide +kernel
theorem dX4_bucketsFor_46 : decode cX4_bucketsFor 46 = .ok (.getfield 16, 3) := by decide +kernel
theorem dX4_bucketsFor_49 : decode cX4_bucketsFor 49 = .ok (.getfield 98, 3) := by decide +kernel
theorem dX4_bucketsFor_52 : decode cX4_bucketsFor 52 = .ok (.iconst 0, 1) := by decide +kernel
theorem dX4_bucketsFor_53 : decode cX4_bucketsFor 53 = .ok (.iload_n 3, 1) := by decide +kernel
theorem dX4_bucketsFor_54 : decode cX4_bucketsFor 54 = .ok (.iastore, 1) := by decide +kernel
theorem dX4_bucketsFor_55 : decode cX4_bucketsFor 55 = .ok (.aload_n 0, 1) := by decide +kernel
theorem dX4_bucketsFor_56 : decode cX4_bucketsFor 56 = .ok (.getfield 16, 3) := by decide +kernel
theorem dX4_bucketsFor_59 : decode cX4_bucketsFor 59 = .ok (.iload_n 1, 1) := by decide +kernel
theorem dX4_bucketsFor_60 : decode cX4_bucketsFor 60 = .ok (.iload_n 2, 1) := by decide +kernel
theorem dX4_bucketsFor_61 : decode cX4_bucketsFor 61 = .ok (.invokevirtual 185, 3) := by decide +kernel
theorem dX4_bucketsFor_64 : decode cX4_bucketsFor 64 = .ok (.ifCond .eq 5, 3) := by decide +kernel
theorem dX4_bucketsFor_67 : decode cX4_bucketsFor 67 = .ok (.iload_n 3, 1) := by decide +kernel
theorem dX4_bucketsFor_68 : decode cX4_bucketsFor 68 = .ok (.ireturn, 1) := by decide +kernel
theorem dX4_bucketsFor_69 : decode cX4_bucketsFor 69 = .ok (.iinc 3 1, 3) := by decide +kernel
theorem dX4_bucketsFor_72 : decode cX4_bucketsFor 72 = .ok (.goto (-47), 3) := by decide +kernel
theorem dX4_bucketsFor_75 : decode cX4_bucketsFor 75 = .ok (.bipush (-3), 2) := by decide +kernel
theorem dX4_bucketsFor_77 : decode cX4_bucketsFor 77 = .ok (.ireturn, 1) := by decide +kernel
set_option maxRecDepth 20000 in
theorem ggX4_waxedFor_J6_bitCount_0f7a4 : GoodIn wsX4_waxedFor wsJ6_bitCount_0f7a4 := goodIn_r _ [5, 6, 7, 8] (by decide +kernel) (by decide +kernel)
set_option maxRecDepth 20000 in
theorem gX4_waxedFor_J6_bitCount_0f7a4 : GoodIn wsX4_waxedFor (va_wsS RX4 188 yJ6_bitCount_0f7a4 wsJ6_bitCount_0f7a4) := goodIn_app (goodIn_of _ (by decide +kernel)) ggX4_waxedFor_J6_bitCount_0f7a4
set_option maxRecDepth 20000 in
theorem ggX4_waxedFor_X4_isEnoughWax : GoodIn wsX4_waxedFor wsX4_isEnoughWax := goodIn_r _ [13, 14, 15, 16, 17, 18, 19, 20, 21, 22, 23, 24, 25, 26, 27, 28, 29, 30, 31, 32, 33, 34, 35, 36, 37, 38, 39, 40, 41, 42, 43, 44, 45, 46, 47, 48, 49, 50, 51, 52, 53, 54, 55, 56, 57, 58, 59, 60, 61, 62, 63, 64, 65, 66, 67, 68, 69, 70, 71, 72, 73, 74, 75, 12, 76, 77, 78, 79, 80, 81, 82, 83, 84, 85, 86, 87, 88, 89, 90, 91, 92, 93, 94, 3, 4, 5, 6, 7, 8, 95, 96, 97, 98, 99, 100, 101, 102, 103, 104, 105, 106, 107, 108, 109, 110, 111, 112, 113, 114, 115, 116, 117, 118, 119, 120, 121, 122, 123, 124, 125, 126, 127, 128, 129, 130, 131, 132] (by decide +kernel) (by decide +kernel)
set_option maxRecDepth 20000 in
theorem gX4_waxedFor_X4_isEnoughWax : GoodIn wsX4_waxedFor (wsV RX4 193 RX4 yX4_isEnoughWax wsX4_isEnoughWax) := goodIn_app (goodIn_of _ (by decide +kernel)) ggX4_waxedFor_X4_isEnoughWax
theorem dX4_waxedFor_0 : decode cX4_waxedFor 0 = .ok (.iload_n 1, 1) := by decide +kernel
theorem dX4_waxedFor_1 : decode cX4_waxedFor 1 = .ok (.iconst 1, 1) := by decide +kernel
theorem dX4_waxedFor_2 : decode cX4_waxedFor 2 = .ok (.if_icmp .lt 19, 3) := by decide +kernel
theorem dX4_waxedFor_5 : decode cX4_waxedFor 5 = .ok (.iload_n 1, 1) := by decide +kernel
theorem dX4_waxedFor_6 : decode cX4_waxedFor 6 = .ok (.bipush 10, 2) := by decide +kernel
theorem dX4_waxedFor_8 : decode cX4_waxedFor 8 = .ok (.if_icmp .gt 13, 3) := by decide +kernel
theorem dX4_waxedFor_11 : decode cX4_waxedFor 11 = .ok (.iload_n 2, 1) := by decide +kernel
theorem dX4_waxedFor_12 : decode cX4_waxedFor 12 = .ok (.ifCond .lt 9, 3) := by decide +kernel
theorem dX4_waxedFor_15 : decode cX4_waxedFor 15 = .ok (.iload_n 2, 1) := by decide +kernel
theorem dX4_waxedFor_16 : decode cX4_waxedFor 16 = .ok (.ldc 184, 2) := by decide +kernel
theorem dX4_waxedFor_18 : decode cX4_waxedFor 18 = .ok (.if_icmp .le 5, 3) := by decide +kernel
theorem dX4_waxedFor_21 : decode cX4_waxedFor 21 = .ok (.iconst (-1), 1) := by decide +kernel
theorem dX4_waxedFor_22 : decode cX4_waxedFor 22 = .ok (.ireturn, 1) := by decide +kernel
theorem dX4_waxedFor_23 : decode cX4_waxedFor 23 = .ok (.iconst 0, 1) := by decide +kernel
theorem dX4_waxedFor_24 : decode cX4_waxedFor 24 = .ok (.istore_n 3, 1) := by decide +kernel
theorem dX4_waxedFor_25 : decode cX4_waxedFor 25 = .ok (.iload_n 3, 1) := by decide +kernel
theorem dX4_waxedFor_26 : decode cX4_waxedFor 26 = .ok (.bipush 10, 2) := by decide +kernel
theorem dX4_waxedFor_28 : decode cX4_waxedFor 28 = .ok (.if_icmp .gt 49, 3) := by decide +kernel
theorem dX4_waxedFor_31 : decode cX4_waxedFor 31 = .ok (.iconst 0, 1) := by decide +kernel
theorem dX4_waxedFor_32 : decode cX4_waxedFor 32 = .ok (.istore 4, 2) := by decide +kernel
theorem dX4_waxedFor_34 : decode cX4_waxedFor 34 = .ok (.iload 4, 2) := by decide +kernel
theorem dX4_waxedFor_36 : decode cX4_waxedFor 36 = .ok (.sipush 1024, 3) := by decide +kernel
theorem dX4_waxedFor_39 : decode cX4_waxedFor 39 = .ok (.if_icmp .ge 32, 3) := by decide +kernel
theorem dX4_waxedFor_42 : decode cX4_waxedFor 42 = .ok (.iload 4, 2) := by decide +kernel
theorem dX4_waxedFor_44 : decode cX4_waxedFor 44 = .ok (.invokestatic 188, 3) := by decide +kernel
theorem dX4_waxedFor_47 : decode cX4_waxedFor 47 = .ok (.iload_n 3, 1) := by decide +kernel
theorem dX4_waxedFor_48 : decode cX4_waxedFor 48 = .ok (.if_icmp .ne 17, 3) := by decide +kernel
theorem dX4_waxedFor_51 : decode cX4_waxedFor 51 = .ok (.aload_n 0, 1) := by decide +kernel
theorem dX4_waxedFor_52 : decode cX4_waxedFor 52 = .ok (.iload 4, 2) := by decide +kernel
theorem dX4_waxedFor_54 : decode cX4_waxedFor 54 = .ok (.iload_n 1, 1) := by decide +kernel
theorem dX4_waxedFor_55 : decode cX4_waxedFor 55 = .ok (.iload_n 2, 1) := by decide +kernel
theorem dX4_waxedFor_56 : decode cX4_waxedFor 56 = .ok (.invokevirtual 193, 3) := by decide +kernel
theorem dX4_waxedFor_59 : decode cX4_waxedFor 59 = .ok (.ifCond .eq 6, 3) := by decide +kernel
theorem dX4_waxedFor_62 : decode cX4_waxedFor 62 = .ok (.iload 4, 2) := by decide +kernel
theorem dX4_waxedFor_64 : decode cX4_waxedFor 64 = .ok (.ireturn, 1) := by decide +kernel
theorem dX4_waxedFor_65 : decode cX4_waxedFor 65 = .ok (.iinc 4 1, 3) := by decide +kernel
theorem dX4_waxedFor_68 : decode cX4_waxedFor 68 = .ok (.goto (-34), 3) := by decide +kernel
theorem dX4_waxedFor_71 : decode cX4_waxedFor 71 = .ok (.iinc 3 1, 3) := by decide +kernel
theorem dX4_waxedFor_74 : decode cX4_waxedFor 74 = .ok (.goto (-49), 3) := by decide +kernel
theorem dX4_waxedFor_77 : decode cX4_waxedFor 77 = .ok (.bipush (-3), 2) := by decide +kernel
theorem dX4_waxedFor_79 : decode cX4_waxedFor 79 = .ok (.ireturn, 1) := by decide +kernel
set_option maxRecDepth 20000 in
theorem ggX4_isEnoughWax_X2_become : GoodIn wsX4_isEnoughWax wsX2_become := goodIn_r _ [10, 11, 12, 13, 14, 15, 16, 17, 18, 19, 20, 21, 22, 23, 24, 25, 26, 27, 28, 112, 113, 114, 115, 116, 117, 118, 119, 120, 121, 122, 123, 124, 125, 126] (by decide +kernel) (by decide +kernel)
set_option maxRecDepth 20000 in
theorem gX4_isEnoughWax_X2_become : GoodIn wsX4_isEnoughWax (wsV RX4 84 RX2 yX2_become wsX2_become) := goodIn_app (goodIn_of _ (by decide +kernel)) ggX4_isEnoughWax_X2_become
set_option maxRecDepth 20000 in
theorem ggX4_isEnoughWax_X2_gainsAtMost : GoodIn wsX4_isEnoughWax wsX2_gainsAtMost := goodIn_r _ [32, 27, 33, 34, 35, 9, 36, 11, 24, 37, 25, 38, 39, 40, 41, 42, 43, 44, 45, 18, 22, 23, 20, 21, 46, 47, 48, 49, 19, 50, 51, 52, 53, 28, 54, 55, 56, 57, 16, 58, 59, 60, 61, 62, 63, 64, 65, 66, 67, 68, 69, 70, 71, 72, 73, 17, 74, 75, 76, 77, 78, 79, 80, 81, 82, 83, 84, 85, 86, 87, 88, 89, 90, 91, 92, 112, 113, 114, 115, 116, 117, 118, 119, 120, 121, 122, 123, 124, 125, 126] (by decide +kernel) (by decide +kernel)
set_option maxRecDepth 20000 in
theorem gX4_isEnoughWax_X2_gainsAtMost : GoodIn wsX4_isEnoughWax (wsV RX4 185 RX2 yX2_gainsAtMost wsX2_gainsAtMost) := goodIn_app (goodIn_of _ (by decide +kernel)) ggX4_isEnoughWax_X2_gainsAtMost
set_option maxRecDepth 20000 in
theorem ggX4_isEnoughWax_X2_wallsOfGround : GoodIn wsX4_isEnoughWax wsX2_wallsOfGround := goodIn_r _ [96, 16, 112, 113, 114, 115, 116, 117, 118, 119, 120, 121, 122, 123, 124, 125, 126] (by decide +kernel) (by decide +kernel)
set_option maxRecDepth 20000 in
theorem gX4_isEnoughWax_X2_wallsOfGround : GoodIn wsX4_isEnoughWax (wsV RX4 173 RX2 yX2_wallsOfGround wsX2_wallsOfGround) := goodIn_app (goodIn_of _ (by decide +kernel)) ggX4_isEnoughWax_X2_wallsOfGround
theorem dX4_isEnoughWax_0 : decode cX4_isEnoughWax 0 = .ok (.iconst 0, 1) := by decide +kernel
theorem dX4_isEnoughWax_1 : decode cX4_isEnoughWax 1 = .ok (.istore 4, 2) := by decide +kernel
theorem dX4_isEnoughWax_3 : decode cX4_isEnoughWax 3 = .ok (.iload 4, 2) := by decide +kernel
theorem dX4_isEnoughWax_5 : decode cX4_isEnoughWax 5 = .ok (.bipush 10, 2) := by decide +kernel
theorem dX4_isEnoughWax_7 : decode cX4_isEnoughWax 7 = .ok (.if_icmp .ge 54, 3) := by decide +kernel
theorem dX4_isEnoughWax_10 : decode cX4_isEnoughWax 10 = .ok (.iconst 1, 1) := by decide +kernel
theorem dX4_isEnoughWax_11 : decode cX4_isEnoughWax 11 = .ok (.iload 4, 2) := by decide +kernel
theorem dX4_isEnoughWax_13 : decode cX4_isEnoughWax 13 = .ok (.ishl, 1) := by decide +kernel
theorem dX4_isEnoughWax_14 : decode cX4_isEnoughWax 14 = .ok (.istore 5, 2) := by decide +kernel
theorem dX4_isEnoughWax_16 : decode cX4_isEnoughWax 16 = .ok (.iload_n 1, 1) := by decide +kernel
theorem dX4_isEnoughWax_17 : decode cX4_isEnoughWax 17 = .ok (.iload 5, 2) := by decide +kernel
theorem dX4_isEnoughWax_19 : decode cX4_isEnoughWax 19 = .ok (.iand, 1) := by decide +kernel
theorem dX4_isEnoughWax_20 : decode cX4_isEnoughWax 20 = .ok (.ifCond .eq 35, 3) := by decide +kernel
theorem dX4_isEnoughWax_23 : decode cX4_isEnoughWax 23 = .ok (.aload_n 0, 1) := by decide +kernel
theorem dX4_isEnoughWax_24 : decode cX4_isEnoughWax 24 = .ok (.getfield 66, 3) := by decide +kernel
theorem dX4_isEnoughWax_27 : decode cX4_isEnoughWax 27 = .ok (.iload_n 1, 1) := by decide +kernel
theorem dX4_isEnoughWax_28 : decode cX4_isEnoughWax 28 = .ok (.iload 5, 2) := by decide +kernel
theorem dX4_isEnoughWax_30 : decode cX4_isEnoughWax 30 = .ok (.ixor, 1) := by decide +kernel
theorem dX4_isEnoughWax_31 : decode cX4_isEnoughWax 31 = .ok (.iaload, 1) := by decide +kernel
theorem dX4_isEnoughWax_32 : decode cX4_isEnoughWax 32 = .ok (.iload 5, 2) := by decide +kernel
theorem dX4_isEnoughWax_34 : decode cX4_isEnoughWax 34 = .ok (.iand, 1) := by decide +kernel
theorem dX4_isEnoughWax_35 : decode cX4_isEnoughWax 35 = .ok (.ifCond .ne 20, 3) := by decide +kernel
theorem dX4_isEnoughWax_38 : decode cX4_isEnoughWax 38 = .ok (.aload_n 0, 1) := by decide +kernel
theorem dX4_isEnoughWax_39 : decode cX4_isEnoughWax 39 = .ok (.getfield 66, 3) := by decide +kernel
theorem dX4_isEnoughWax_42 : decode cX4_isEnoughWax 42 = .ok (.iload_n 1, 1) := by decide +kernel
theorem dX4_isEnoughWax_43 : decode cX4_isEnoughWax 43 = .ok (.aload_n 0, 1) := by decide +kernel
theorem dX4_isEnoughWax_44 : decode cX4_isEnoughWax 44 = .ok (.getfield 66, 3) := by decide +kernel
theorem dX4_isEnoughWax_47 : decode cX4_isEnoughWax 47 = .ok (.iload_n 1, 1) := by decide +kernel
theorem dX4_isEnoughWax_48 : decode cX4_isEnoughWax 48 = .ok (.iload 5, 2) := by decide +kernel
theorem dX4_isEnoughWax_50 : decode cX4_isEnoughWax 50 = .ok (.ixor, 1) := by decide +kernel
theorem dX4_isEnoughWax_51 : decode cX4_isEnoughWax 51 = .ok (.iaload, 1) := by decide +kernel
theorem dX4_isEnoughWax_52 : decode cX4_isEnoughWax 52 = .ok (.iastore, 1) := by decide +kernel
theorem dX4_isEnoughWax_53 : decode cX4_isEnoughWax 53 = .ok (.iconst 0, 1) := by decide +kernel
theorem dX4_isEnoughWax_54 : decode cX4_isEnoughWax 54 = .ok (.ireturn, 1) := by decide +kernel
theorem dX4_isEnoughWax_55 : decode cX4_isEnoughWax 55 = .ok (.iinc 4 1, 3) := by decide +kernel
theorem dX4_isEnoughWax_58 : decode cX4_isEnoughWax 58 = .ok (.goto (-55), 3) := by decide +kernel
theorem dX4_isEnoughWax_61 : decode cX4_isEnoughWax 61 = .ok (.aload_n 0, 1) := by decide +kernel
theorem dX4_isEnoughWax_62 : decode cX4_isEnoughWax 62 = .ok (.getfield 16, 3) := by decide +kernel
theorem dX4_isEnoughWax_65 : decode cX4_isEnoughWax 65 = .ok (.aload_n 0, 1) := by decide +kernel
theorem dX4_isEnoughWax_66 : decode cX4_isEnoughWax 66 = .ok (.getfield 12, 3) := by decide +kernel
theorem dX4_isEnoughWax_69 : decode cX4_isEnoughWax 69 = .ok (.invokevirtual 84, 3) := by decide +kernel
theorem dX4_isEnoughWax_72 : decode cX4_isEnoughWax 72 = .ok (.iconst 0, 1) := by decide +kernel
theorem dX4_isEnoughWax_73 : decode cX4_isEnoughWax 73 = .ok (.istore 4, 2) := by decide +kernel
theorem dX4_isEnoughWax_75 : decode cX4_isEnoughWax 75 = .ok (.iload 4, 2) := by decide +kernel
theorem dX4_isEnoughWax_77 : decode cX4_isEnoughWax 77 = .ok (.bipush 10, 2) := by decide +kernel
theorem dX4_isEnoughWax_79 : decode cX4_isEnoughWax 79 = .ok (.if_icmp .ge 29, 3) := by decide +kernel
theorem dX4_isEnoughWax_82 : decode cX4_isEnoughWax 82 = .ok (.iload_n 1, 1) := by decide +kernel
theorem dX4_isEnoughWax_83 : decode cX4_isEnoughWax 83 = .ok (.iload 4, 2) := by decide +kernel
theorem dX4_isEnoughWax_85 : decode cX4_isEnoughWax 85 = .ok (.ishr, 1) := by decide +kernel
theorem dX4_isEnoughWax_86 : decode cX4_isEnoughWax 86 = .ok (.iconst 1, 1) := by decide +kernel
theorem dX4_isEnoughWax_87 : decode cX4_isEnoughWax 87 = .ok (.iand, 1) := by decide +kernel
theorem dX4_isEnoughWax_88 : decode cX4_isEnoughWax 88 = .ok (.ifCond .eq 14, 3) := by decide +kernel
theorem dX4_isEnoughWax_91 : decode cX4_isEnoughWax 91 = .ok (.aload_n 0, 1) := by decide +kernel
theorem dX4_isEnoughWax_92 : decode cX4_isEnoughWax 92 = .ok (.getfield 16, 3) := by decide +kernel
theorem dX4_isEnoughWax_95 : decode cX4_isEnoughWax 95 = .ok (.getfield 134, 3) := by decide +kernel
theorem dX4_isEnoughWax_98 : decode cX4_isEnoughWax 98 = .ok (.iload 4, 2) := by decide +kernel
theorem dX4_isEnoughWax_100 : decode cX4_isEnoughWax 100 = .ok (.iconst 2, 1) := by decide +kernel
theorem dX4_isEnoughWax_101 : decode cX4_isEnoughWax 101 = .ok (.iastore, 1) := by decide +kernel
theorem dX4_isEnoughWax_102 : decode cX4_isEnoughWax 102 = .ok (.iinc 4 1, 3) := by decide +kernel
theorem dX4_isEnoughWax_105 : decode cX4_isEnoughWax 105 = .ok (.goto (-30), 3) := by decide +kernel
theorem dX4_isEnoughWax_108 : decode cX4_isEnoughWax 108 = .ok (.aload_n 0, 1) := by decide +kernel
theorem dX4_isEnoughWax_109 : decode cX4_isEnoughWax 109 = .ok (.getfield 16, 3) := by decide +kernel
theorem dX4_isEnoughWax_112 : decode cX4_isEnoughWax 112 = .ok (.iload_n 2, 1) := by decide +kernel
theorem dX4_isEnoughWax_113 : decode cX4_isEnoughWax 113 = .ok (.iload_n 3, 1) := by decide +kernel
theorem dX4_isEnoughWax_114 : decode cX4_isEnoughWax 114 = .ok (.invokevirtual 185, 3) := by decide +kernel
theorem dX4_isEnoughWax_117 : decode cX4_isEnoughWax 117 = .ok (.istore 4, 2) := by decide +kernel
theorem dX4_isEnoughWax_119 : decode cX4_isEnoughWax 119 = .ok (.aload_n 0, 1) := by decide +kernel
theorem dX4_isEnoughWax_120 : decode cX4_isEnoughWax 120 = .ok (.getfield 66, 3) := by decide +kernel
theorem dX4_isEnoughWax_123 : decode cX4_isEnoughWax 123 = .ok (.iload_n 1, 1) := by decide +kernel
theorem dX4_isEnoughWax_124 : decode cX4_isEnoughWax 124 = .ok (.aload_n 0, 1) := by decide +kernel
theorem dX4_isEnoughWax_125 : decode cX4_isEnoughWax 125 = .ok (.getfield 16, 3) := by decide +kernel
theorem dX4_isEnoughWax_128 : decode cX4_isEnoughWax 128 = .ok (.getfield 197, 3) := by decide +kernel
theorem dX4_isEnoughWax_131 : decode cX4_isEnoughWax 131 = .ok (.aload_n 0, 1) := by decide +kernel
theorem dX4_isEnoughWax_132 : decode cX4_isEnoughWax 132 = .ok (.getfield 12, 3) := by decide +kernel
theorem dX4_isEnoughWax_135 : decode cX4_isEnoughWax 135 = .ok (.iconst 2, 1) := by decide +kernel
theorem dX4_isEnoughWax_136 : decode cX4_isEnoughWax 136 = .ok (.invokevirtual 173, 3) := by decide +kernel
theorem dX4_isEnoughWax_139 : decode cX4_isEnoughWax 139 = .ok (.iconst (-1), 1) := by decide +kernel
theorem dX4_isEnoughWax_140 : decode cX4_isEnoughWax 140 = .ok (.ixor, 1) := by decide +kernel
theorem dX4_isEnoughWax_141 : decode cX4_isEnoughWax 141 = .ok (.iand, 1) := by decide +kernel
theorem dX4_isEnoughWax_142 : decode cX4_isEnoughWax 142 = .ok (.iastore, 1) := by decide +kernel
theorem dX4_isEnoughWax_143 : decode cX4_isEnoughWax 143 = .ok (.iload 4, 2) := by decide +kernel
theorem dX4_isEnoughWax_145 : decode cX4_isEnoughWax 145 = .ok (.ireturn, 1) := by decide +kernel
set_option maxRecDepth 20000 in
theorem ggX4_hands_X2_handCount : GoodIn wsX4_hands wsX2_handCount := goodIn_r _ [7, 8, 9, 10, 11, 12, 13, 14, 15, 16, 45, 46, 47, 48, 49, 50, 51, 52, 53, 54, 55, 56, 57, 58, 59] (by decide +kernel) (by decide +kernel)
set_option maxRecDepth 20000 in
theorem gX4_hands_X2_handCount : GoodIn wsX4_hands (wsV RX4 200 RX2 yX2_handCount wsX2_handCount) := goodIn_app (goodIn_of _ (by decide +kernel)) ggX4_hands_X2_handCount
set_option maxRecDepth 20000 in
theorem ggX4_hands_X4_isName : GoodIn wsX4_hands wsX4_isName := goodIn_r _ [21, 1, 22, 23, 24, 20, 25, 30, 31, 32, 33, 34, 35, 36, 37, 38, 39, 40, 41, 42, 43, 44, 45, 46, 47, 48, 49, 50, 51, 52, 53, 54, 55, 56, 57, 58, 59] (by decide +kernel) (by decide +kernel)
set_option maxRecDepth 20000 in
theorem gX4_hands_X4_isName : GoodIn wsX4_hands (wsV RX4 105 RX4 yX4_isName wsX4_isName) := goodIn_app (goodIn_of _ (by decide +kernel)) ggX4_hands_X4_isName
set_option maxRecDepth 20000 in
theorem ggX4_hands_X2_namesByHand : GoodIn wsX4_hands wsX2_namesByHand := goodIn_r _ [29, 8, 9, 45, 46, 47, 48, 49, 50, 51, 52, 53, 54, 55, 56, 57, 58, 59] (by decide +kernel) (by decide +kernel)
set_option maxRecDepth 20000 in
theorem gX4_hands_X2_namesByHand : GoodIn wsX4_hands (wsV RX4 203 RX2 yX2_namesByHand wsX2_namesByHand) := goodIn_app (goodIn_of _ (by decide +kernel)) ggX4_hands_X2_namesByHand
theorem dX4_hands_0 : decode cX4_hands 0 = .ok (.iload_n 1, 1) := by decide +kernel
theorem dX4_hands_1 : decode cX4_hands 1 = .ok (.ifCond .ne 11, 3) := by decide +kernel
theorem dX4_hands_4 : decode cX4_hands 4 = .ok (.aload_n 0, 1) := by decide +kernel
theorem dX4_hands_5 : decode cX4_hands 5 = .ok (.getfield 12, 3) := by decide +kernel
theorem dX4_hands_8 : decode cX4_hands 8 = .ok (.invokevirtual 200, 3) := by decide +kernel
theorem dX4_hands_11 : decode cX4_hands 11 = .ok (.ireturn, 1) := by decide +kernel
theorem dX4_hands_12 : decode cX4_hands 12 = .ok (.iload_n 1, 1) := by decide +kernel
theorem dX4_hands_13 : decode cX4_hands 13 = .ok (.iconst 1, 1) := by decide +kernel
theorem dX4_hands_14 : decode cX4_hands 14 = .ok (.if_icmp .ne 30, 3) := by decide +kernel
theorem dX4_hands_17 : decode cX4_hands 17 = .ok (.aload_n 0, 1) := by decide +kernel
theorem dX4_hands_18 : decode cX4_hands 18 = .ok (.iload_n 2, 1) := by decide +kernel
theorem dX4_hands_19 : decode cX4_hands 19 = .ok (.invokevirtual 105, 3) := by decide +kernel
theorem dX4_hands_22 : decode cX4_hands 22 = .ok (.ifCond .eq 22, 3) := by decide +kernel
theorem dX4_hands_25 : decode cX4_hands 25 = .ok (.aload_n 0, 1) := by decide +kernel
theorem dX4_hands_26 : decode cX4_hands 26 = .ok (.getfield 12, 3) := by decide +kernel
theorem dX4_hands_29 : decode cX4_hands 29 = .ok (.aload_n 0, 1) := by decide +kernel
theorem dX4_hands_30 : decode cX4_hands 30 = .ok (.getfield 12, 3) := by decide +kernel
theorem dX4_hands_33 : decode cX4_hands 33 = .ok (.getfield 112, 3) := by decide +kernel
theorem dX4_hands_36 : decode cX4_hands 36 = .ok (.iload_n 2, 1) := by decide +kernel
theorem dX4_hands_37 : decode cX4_hands 37 = .ok (.iaload, 1) := by decide +kernel
theorem dX4_hands_38 : decode cX4_hands 38 = .ok (.invokevirtual 203, 3) := by decide +kernel
theorem dX4_hands_41 : decode cX4_hands 41 = .ok (.goto 4, 3) := by decide +kernel
theorem dX4_hands_44 : decode cX4_hands 44 = .ok (.iconst (-1), 1) := by decide +kernel
theorem dX4_hands_45 : decode cX4_hands 45 = .ok (.ireturn, 1) := by decide +kernel
set_option maxRecDepth 20000 in
theorem ggX4_fits_X4_isBelow : GoodIn wsX4_fits wsX4_isBelow := goodIn_r _ [5] (by decide +kernel) (by decide +kernel)
set_option maxRecDepth 20000 in
theorem gX4_fits_X4_isBelow : GoodIn wsX4_fits (va_wsS RX4 91 yX4_isBelow wsX4_isBelow) := goodIn_app (goodIn_of _ (by decide +kernel)) ggX4_fits_X4_isBelow
set_option maxRecDepth 20000 in
theorem ggX4_fits_X4_isName : GoodIn wsX4_fits wsX4_isName := goodIn_r _ [9, 10, 11, 2, 3, 4, 5, 103, 104, 105, 106, 107, 108, 109, 110, 111, 112, 113, 114, 115, 116, 117, 118, 119, 120, 121, 122, 123, 124, 125, 126, 127, 128, 129, 130, 131, 132] (by decide +kernel) (by decide +kernel)
set_option maxRecDepth 20000 in
theorem gX4_fits_X4_isName : GoodIn wsX4_fits (wsV RX4 105 RX4 yX4_isName wsX4_isName) := goodIn_app (goodIn_of _ (by decide +kernel)) ggX4_fits_X4_isName
set_option maxRecDepth 20000 in
theorem ggX4_fits_X4_isFitting : GoodIn wsX4_fits wsX4_isFitting := goodIn_r _ [15, 16, 10, 17, 18, 19, 20, 21, 22, 23, 24, 25, 26, 27, 28, 29, 30, 31, 32, 33, 34, 35, 36, 37, 38, 39, 40, 41, 42, 43, 44, 45, 46, 47, 48, 49, 50, 51, 52, 53, 54, 55, 56, 57, 58, 59, 60, 61, 62, 63, 64, 65, 66, 67, 68, 69, 70, 71, 72, 73, 4, 74, 75, 76, 77, 78, 79, 80, 81, 82, 83, 84, 85, 86, 87, 88, 89, 90, 91, 92, 93, 94, 95, 96, 97, 98, 99, 100, 101, 102, 103, 104, 105, 106, 107, 108, 109, 110, 111, 112, 113, 114, 115, 116, 117, 118, 119, 120, 121, 122, 123, 124, 125, 126, 127, 128, 129, 130, 131, 132, 133, 134, 135] (by decide +kernel) (by decide +kernel)
set_option maxRecDepth 20000 in
theorem gX4_fits_X4_isFitting : GoodIn wsX4_fits (wsV RX4 206 RX4 yX4_isFitting wsX4_isFitting) := goodIn_app (goodIn_of _ (by decide +kernel)) ggX4_fits_X4_isFitting
theorem dX4_fits_0 : decode cX4_fits 0 = .ok (.iload_n 1, 1) := by decide +kernel
theorem dX4_fits_1 : decode cX4_fits 1 = .ok (.iconst 4, 1) := by decide +kernel
theorem dX4_fits_2 : decode cX4_fits 2 = .ok (.invokestatic 91, 3) := by decide +kernel
theorem dX4_fits_5 : decode cX4_fits 5 = .ok (.ifCond .eq 19, 3) := by decide +kernel
theorem dX4_fits_8 : decode cX4_fits 8 = .ok (.aload_n 0, 1) := by decide +kernel
theorem dX4_fits_9 : decode cX4_fits 9 = .ok (.iload_n 2, 1) := by decide +kernel
theorem dX4_fits_10 : decode cX4_fits 10 = .ok (.invokevirtual 105, 3) := by decide +kernel
theorem dX4_fits_13 : decode cX4_fits 13 = .ok (.ifCond .eq 11, 3) := by decide +kernel
theorem dX4_fits_16 : decode cX4_fits 16 = .ok (.iload_n 3, 1) := by decide +kernel
theorem dX4_fits_17 : decode cX4_fits 17 = .ok (.iconst 2, 1) := by decide +kernel
theorem dX4_fits_18 : decode cX4_fits 18 = .ok (.invokestatic 91, 3) := by decide +kernel
theorem dX4_fits_21 : decode cX4_fits 21 = .ok (.ifCond .ne 5, 3) := by decide +kernel
theorem dX4_fits_24 : decode cX4_fits 24 = .ok (.iconst (-1), 1) := by decide +kernel
theorem dX4_fits_25 : decode cX4_fits 25 = .ok (.ireturn, 1) := by decide +kernel
theorem dX4_fits_26 : decode cX4_fits 26 = .ok (.aload_n 0, 1) := by decide +kernel
theorem dX4_fits_27 : decode cX4_fits 27 = .ok (.getfield 46, 3) := by decide +kernel
theorem dX4_fits_30 : decode cX4_fits 30 = .ok (.iload_n 1, 1) := by decide +kernel
theorem dX4_fits_31 : decode cX4_fits 31 = .ok (.aaload, 1) := by decide +kernel
theorem dX4_fits_32 : decode cX4_fits 32 = .ok (.astore 4, 2) := by decide +kernel
theorem dX4_fits_34 : decode cX4_fits 34 = .ok (.aload 4, 2) := by decide +kernel
theorem dX4_fits_36 : decode cX4_fits 36 = .ok (.ifnonnull 6, 3) := by decide +kernel
theorem dX4_fits_39 : decode cX4_fits 39 = .ok (.bipush (-11), 2) := by decide +kernel
theorem dX4_fits_41 : decode cX4_fits 41 = .ok (.ireturn, 1) := by decide +kernel
theorem dX4_fits_42 : decode cX4_fits 42 = .ok (.iconst 0, 1) := by decide +kernel
theorem dX4_fits_43 : decode cX4_fits 43 = .ok (.istore 5, 2) := by decide +kernel
theorem dX4_fits_45 : decode cX4_fits 45 = .ok (.bipush (-3), 2) := by decide +kernel
theorem dX4_fits_47 : decode cX4_fits 47 = .ok (.istore 6, 2) := by decide +kernel
theorem dX4_fits_49 : decode cX4_fits 49 = .ok (.bipush 9, 2) := by decide +kernel
theorem dX4_fits_51 : decode cX4_fits 51 = .ok (.istore 7, 2) := by decide +kernel
theorem dX4_fits_53 : decode cX4_fits 53 = .ok (.iload 7, 2) := by decide +kernel
theorem dX4_fits_55 : decode cX4_fits 55 = .ok (.ifCond .lt 28, 3) := by decide +kernel
theorem dX4_fits_58 : decode cX4_fits 58 = .ok (.aload_n 0, 1) := by decide +kernel
theorem dX4_fits_59 : decode cX4_fits 59 = .ok (.aload 4, 2) := by decide +kernel
theorem dX4_fits_61 : decode cX4_fits 61 = .ok (.iload_n 2, 1) := by decide +kernel
theorem dX4_fits_62 : decode cX4_fits 62 = .ok (.iload 7, 2) := by decide +kernel
theorem dX4_fits_64 : decode cX4_fits 64 = .ok (.invokevirtual 206, 3) := by decide +kernel
theorem dX4_fits_67 : decode cX4_fits 67 = .ok (.ifCond .eq 10, 3) := by decide +kernel
theorem dX4_fits_70 : decode cX4_fits 70 = .ok (.iinc 5 1, 3) := by decide +kernel
theorem dX4_fits_73 : decode cX4_fits 73 = .ok (.iload 7, 2) := by decide +kernel
theorem dX4_fits_75 : decode cX4_fits 75 = .ok (.istore 6, 2) := by decide +kernel
theorem dX4_fits_77 : decode cX4_fits 77 = .ok (.iinc 7 (-1), 3) := by decide +kernel
theorem dX4_fits_80 : decode cX4_fits 80 = .ok (.goto (-27), 3) := by decide +kernel
theorem dX4_fits_83 : decode cX4_fits 83 = .ok (.iload_n 3, 1) := by decide +kernel
theorem dX4_fits_84 : decode cX4_fits 84 = .ok (.ifCond .ne 8, 3) := by decide +kernel
theorem dX4_fits_87 : decode cX4_fits 87 = .ok (.iload 5, 2) := by decide +kernel
theorem dX4_fits_89 : decode cX4_fits 89 = .ok (.goto 5, 3) := by decide +kernel
theorem dX4_fits_92 : decode cX4_fits 92 = .ok (.iload 6, 2) := by decide +kernel
theorem dX4_fits_94 : decode cX4_fits 94 = .ok (.ireturn, 1) := by decide +kernel
set_option maxRecDepth 20000 in
theorem ggX4_isFitting_X2_become : GoodIn wsX4_isFitting wsX2_become := goodIn_r _ [11, 12, 13, 14, 15, 16, 17, 18, 19, 20, 21, 22, 23, 24, 25, 26, 27, 28, 29, 105, 106, 107, 108, 109, 110, 111, 112, 113, 114, 115, 116, 117, 118, 119] (by decide +kernel) (by decide +kernel)
set_option maxRecDepth 20000 in
theorem gX4_isFitting_X2_become : GoodIn wsX4_isFitting (wsV RX4 84 RX2 yX2_become wsX2_become) := goodIn_app (goodIn_of _ (by decide +kernel)) ggX4_isFitting_X2_become
set_option maxRecDepth 20000 in
theorem ggX4_isFitting_X2_passNight : GoodIn wsX4_isFitting wsX2_passNight := goodIn_r _ [33, 12, 25, 34, 26, 35, 36, 37, 38, 28, 39, 40, 41, 10, 42, 19, 23, 24, 21, 22, 43, 44, 45, 46, 20, 47, 48, 49, 50, 29, 51, 52, 53, 54, 17, 55, 56, 57, 58, 59, 60, 61, 62, 63, 64, 65, 66, 67, 68, 69, 70, 18, 71, 72, 73, 74, 75, 76, 77, 78, 79, 80, 81, 82, 83, 84, 85, 86, 87, 88, 89, 105, 106, 107, 108, 109, 110, 111, 112, 113, 114, 115, 116, 117, 118, 119] (by decide +kernel) (by decide +kernel)
set_option maxRecDepth 20000 in
theorem gX4_isFitting_X2_passNight : GoodIn wsX4_isFitting (wsV RX4 149 RX2 yX2_passNight wsX2_passNight) := goodIn_app (goodIn_of _ (by decide +kernel)) ggX4_isFitting_X2_passNight
theorem dX4_isFitting_0 : decode cX4_isFitting 0 = .ok (.aload_n 0, 1) := by decide +kernel
theorem dX4_isFitting_1 : decode cX4_isFitting 1 = .ok (.getfield 16, 3) := by decide +kernel
theorem dX4_isFitting_4 : decode cX4_isFitting 4 = .ok (.aload_n 0, 1) := by decide +kernel
theorem dX4_isFitting_5 : decode cX4_isFitting 5 = .ok (.getfield 12, 3) := by decide +kernel
theorem dX4_isFitting_8 : decode cX4_isFitting 8 = .ok (.invokevirtual 84, 3) := by decide +kernel
theorem dX4_isFitting_11 : decode cX4_isFitting 11 = .ok (.aload_n 0, 1) := by decide +kernel
theorem dX4_isFitting_12 : decode cX4_isFitting 12 = .ok (.getfield 16, 3) := by decide +kernel
theorem dX4_isFitting_15 : decode cX4_isFitting 15 = .ok (.getfield 112, 3) := by decide +kernel
theorem dX4_isFitting_18 : decode cX4_isFitting 18 = .ok (.iload_n 2, 1) := by decide +kernel
theorem dX4_isFitting_19 : decode cX4_isFitting 19 = .ok (.iload_n 3, 1) := by decide +kernel
theorem dX4_isFitting_20 : decode cX4_isFitting 20 = .ok (.iastore, 1) := by decide +kernel
theorem dX4_isFitting_21 : decode cX4_isFitting 21 = .ok (.iconst 0, 1) := by decide +kernel
theorem dX4_isFitting_22 : decode cX4_isFitting 22 = .ok (.istore 4, 2) := by decide +kernel
theorem dX4_isFitting_24 : decode cX4_isFitting 24 = .ok (.iload 4, 2) := by decide +kernel
theorem dX4_isFitting_26 : decode cX4_isFitting 26 = .ok (.aload_n 1, 1) := by decide +kernel
theorem dX4_isFitting_27 : decode cX4_isFitting 27 = .ok (.getfield 210, 3) := by decide +kernel
theorem dX4_isFitting_30 : decode cX4_isFitting 30 = .ok (.if_icmp .ge 47, 3) := by decide +kernel
theorem dX4_isFitting_33 : decode cX4_isFitting 33 = .ok (.aload_n 0, 1) := by decide +kernel
theorem dX4_isFitting_34 : decode cX4_isFitting 34 = .ok (.getfield 16, 3) := by decide +kernel
theorem dX4_isFitting_37 : decode cX4_isFitting 37 = .ok (.invokevirtual 149, 3) := by decide +kernel
theorem dX4_isFitting_40 : decode cX4_isFitting 40 = .ok (.aload_n 1, 1) := by decide +kernel
theorem dX4_isFitting_41 : decode cX4_isFitting 41 = .ok (.getfield 213, 3) := by decide +kernel
theorem dX4_isFitting_44 : decode cX4_isFitting 44 = .ok (.iload 4, 2) := by decide +kernel
theorem dX4_isFitting_46 : decode cX4_isFitting 46 = .ok (.iaload, 1) := by decide +kernel
theorem dX4_isFitting_47 : decode cX4_isFitting 47 = .ok (.istore 5, 2) := by decide +kernel
theorem dX4_isFitting_49 : decode cX4_isFitting 49 = .ok (.iload 5, 2) := by decide +kernel
theorem dX4_isFitting_51 : decode cX4_isFitting 51 = .ok (.iconst (-1), 1) := by decide +kernel
theorem dX4_isFitting_52 : decode cX4_isFitting 52 = .ok (.if_icmp .eq 19, 3) := by decide +kernel
theorem dX4_isFitting_55 : decode cX4_isFitting 55 = .ok (.iload 5, 2) := by decide +kernel
theorem dX4_isFitting_57 : decode cX4_isFitting 57 = .ok (.aload_n 0, 1) := by decide +kernel
theorem dX4_isFitting_58 : decode cX4_isFitting 58 = .ok (.getfield 16, 3) := by decide +kernel
theorem dX4_isFitting_61 : decode cX4_isFitting 61 = .ok (.getfield 118, 3) := by decide +kernel
theorem dX4_isFitting_64 : decode cX4_isFitting 64 = .ok (.iload_n 2, 1) := by decide +kernel
theorem dX4_isFitting_65 : decode cX4_isFitting 65 = .ok (.iaload, 1) := by decide +kernel
theorem dX4_isFitting_66 : decode cX4_isFitting 66 = .ok (.if_icmp .eq 5, 3) := by decide +kernel
theorem dX4_isFitting_69 : decode cX4_isFitting 69 = .ok (.iconst 0, 1) := by decide +kernel
theorem dX4_isFitting_70 : decode cX4_isFitting 70 = .ok (.ireturn, 1) := by decide +kernel
theorem dX4_isFitting_71 : decode cX4_isFitting 71 = .ok (.iinc 4 1, 3) := by decide +kernel
theorem dX4_isFitting_74 : decode cX4_isFitting 74 = .ok (.goto (-50), 3) := by decide +kernel
theorem dX4_isFitting_77 : decode cX4_isFitting 77 = .ok (.iconst 1, 1) := by decide +kernel
theorem dX4_isFitting_78 : decode cX4_isFitting 78 = .ok (.ireturn, 1) := by decide +kernel
set_option maxRecDepth 20000 in
theorem ggX4_odds_X4_isBelow : GoodIn wsX4_odds wsX4_isBelow := goodIn_r _ [8] (by decide +kernel) (by decide +kernel)
set_option maxRecDepth 20000 in
theorem gX4_odds_X4_isBelow : GoodIn wsX4_odds (va_wsS RX4 91 yX4_isBelow wsX4_isBelow) := goodIn_app (goodIn_of _ (by decide +kernel)) ggX4_odds_X4_isBelow
set_option maxRecDepth 20000 in
theorem ggX4_odds_X4_partOf : GoodIn wsX4_odds wsX4_partOf := goodIn_r _ [11, 1] (by decide +kernel) (by decide +kernel)
set_option maxRecDepth 20000 in
theorem gX4_odds_X4_partOf : GoodIn wsX4_odds (va_wsS RX4 220 yX4_partOf wsX4_partOf) := goodIn_app (goodIn_of _ (by decide +kernel)) ggX4_odds_X4_partOf
theorem dX4_odds_0 : decode cX4_odds 0 = .ok (.iload_n 1, 1) := by decide +kernel
theorem dX4_odds_1 : decode cX4_odds 1 = .ok (.ifCond .lt 26, 3) := by decide +kernel
theorem dX4_odds_4 : decode cX4_odds 4 = .ok (.iload_n 1, 1) := by decide +kernel
theorem dX4_odds_5 : decode cX4_odds 5 = .ok (.bipush 8, 2) := by decide +kernel
theorem dX4_odds_7 : decode cX4_odds 7 = .ok (.if_icmp .gt 20, 3) := by decide +kernel
theorem dX4_odds_10 : decode cX4_odds 10 = .ok (.iload_n 2, 1) := by decide +kernel
theorem dX4_odds_11 : decode cX4_odds 11 = .ok (.ifCond .lt 16, 3) := by decide +kernel
theorem dX4_odds_14 : decode cX4_odds 14 = .ok (.iload_n 2, 1) := by decide +kernel
theorem dX4_odds_15 : decode cX4_odds 15 = .ok (.iload_n 1, 1) := by decide +kernel
theorem dX4_odds_16 : decode cX4_odds 16 = .ok (.if_icmp .gt 11, 3) := by decide +kernel
theorem dX4_odds_19 : decode cX4_odds 19 = .ok (.iload_n 3, 1) := by decide +kernel
theorem dX4_odds_20 : decode cX4_odds 20 = .ok (.iconst 2, 1) := by decide +kernel
theorem dX4_odds_21 : decode cX4_odds 21 = .ok (.invokestatic 91, 3) := by decide +kernel
theorem dX4_odds_24 : decode cX4_odds 24 = .ok (.ifCond .ne 7, 3) := by decide +kernel
theorem dX4_odds_27 : decode cX4_odds 27 = .ok (.ldc2_w 216, 3) := by decide +kernel
theorem dX4_odds_30 : decode cX4_odds 30 = .ok (.lreturn, 1) := by decide +kernel
theorem dX4_odds_31 : decode cX4_odds 31 = .ok (.aload_n 0, 1) := by decide +kernel
theorem dX4_odds_32 : decode cX4_odds 32 = .ok (.getfield 12, 3) := by decide +kernel
theorem dX4_odds_35 : decode cX4_odds 35 = .ok (.getfield 98, 3) := by decide +kernel
theorem dX4_odds_38 : decode cX4_odds 38 = .ok (.iconst 3, 1) := by decide +kernel
theorem dX4_odds_39 : decode cX4_odds 39 = .ok (.iaload, 1) := by decide +kernel
theorem dX4_odds_40 : decode cX4_odds 40 = .ok (.istore 4, 2) := by decide +kernel
theorem dX4_odds_42 : decode cX4_odds 42 = .ok (.lconst 1, 1) := by decide +kernel
theorem dX4_odds_43 : decode cX4_odds 43 = .ok (.lstore 5, 2) := by decide +kernel
theorem dX4_odds_45 : decode cX4_odds 45 = .ok (.lconst 1, 1) := by decide +kernel
theorem dX4_odds_46 : decode cX4_odds 46 = .ok (.lstore 7, 2) := by decide +kernel
theorem dX4_odds_48 : decode cX4_odds 48 = .ok (.iconst 0, 1) := by decide +kernel
theorem dX4_odds_49 : decode cX4_odds 49 = .ok (.istore 9, 2) := by decide +kernel
theorem dX4_odds_51 : decode cX4_odds 51 = .ok (.iload 9, 2) := by decide +kernel
theorem dX4_odds_53 : decode cX4_odds 53 = .ok (.iload_n 2, 1) := by decide +kernel
theorem dX4_odds_54 : decode cX4_odds 54 = .ok (.if_icmp .ge 25, 3) := by decide +kernel
theorem dX4_odds_57 : decode cX4_odds 57 = .ok (.lload 5, 2) := by decide +kernel
theorem dX4_odds_59 : decode cX4_odds 59 = .ok (.iload_n 1, 1) := by decide +kernel
theorem dX4_odds_60 : decode cX4_odds 60 = .ok (.iload 9, 2) := by decide +kernel
theorem dX4_odds_62 : decode cX4_odds 62 = .ok (.isub, 1) := by decide +kernel
theorem dX4_odds_63 : decode cX4_odds 63 = .ok (.i2l, 1) := by decide +kernel
theorem dX4_odds_64 : decode cX4_odds 64 = .ok (.lmul, 1) := by decide +kernel
theorem dX4_odds_65 : decode cX4_odds 65 = .ok (.iload 9, 2) := by decide +kernel
theorem dX4_odds_67 : decode cX4_odds 67 = .ok (.iconst 1, 1) := by decide +kernel
theorem dX4_odds_68 : decode cX4_odds 68 = .ok (.iadd, 1) := by decide +kernel
theorem dX4_odds_69 : decode cX4_odds 69 = .ok (.i2l, 1) := by decide +kernel
theorem dX4_odds_70 : decode cX4_odds 70 = .ok (.ldiv, 1) := by decide +kernel
theorem dX4_odds_71 : decode cX4_odds 71 = .ok (.lstore 5, 2) := by decide +kernel
theorem dX4_odds_73 : decode cX4_odds 73 = .ok (.iinc 9 1, 3) := by decide +kernel
theorem dX4_odds_76 : decode cX4_odds 76 = .ok (.goto (-25), 3) := by decide +kernel
theorem dX4_odds_79 : decode cX4_odds 79 = .ok (.iconst 0, 1) := by decide +kernel
theorem dX4_odds_80 : decode cX4_odds 80 = .ok (.istore 9, 2) := by decide +kernel
theorem dX4_odds_82 : decode cX4_odds 82 = .ok (.iload 9, 2) := by decide +kernel
theorem dX4_odds_84 : decode cX4_odds 84 = .ok (.iload_n 1, 1) := by decide +kernel
theorem dX4_odds_85 : decode cX4_odds 85 = .ok (.if_icmp .ge 40, 3) := by decide +kernel
theorem dX4_odds_88 : decode cX4_odds 88 = .ok (.lload 5, 2) := by decide +kernel
theorem dX4_odds_90 : decode cX4_odds 90 = .ok (.iload 9, 2) := by decide +kernel
theorem dX4_odds_92 : decode cX4_odds 92 = .ok (.iload_n 2, 1) := by decide +kernel
theorem dX4_odds_93 : decode cX4_odds 93 = .ok (.if_icmp .ge 9, 3) := by decide +kernel
theorem dX4_odds_96 : decode cX4_odds 96 = .ok (.iload 4, 2) := by decide +kernel
theorem dX4_odds_98 : decode cX4_odds 98 = .ok (.i2l, 1) := by decide +kernel
theorem dX4_odds_99 : decode cX4_odds 99 = .ok (.goto 9, 3) := by decide +kernel
theorem dX4_odds_102 : decode cX4_odds 102 = .ok (.bipush 100, 2) := by decide +kernel
theorem dX4_odds_104 : decode cX4_odds 104 = .ok (.iload 4, 2) := by decide +kernel
theorem dX4_odds_106 : decode cX4_odds 106 = .ok (.isub, 1) := by decide +kernel
theorem dX4_odds_107 : decode cX4_odds 107 = .ok (.i2l, 1) := by decide +kernel
theorem dX4_odds_108 : decode cX4_odds 108 = .ok (.lmul, 1) := by decide +kernel
theorem dX4_odds_109 : decode cX4_odds 109 = .ok (.lstore 5, 2) := by decide +kernel
theorem dX4_odds_111 : decode cX4_odds 111 = .ok (.lload 7, 2) := by decide +kernel
theorem dX4_odds_113 : decode cX4_odds 113 = .ok (.ldc2_w 218, 3) := by decide +kernel
theorem dX4_odds_116 : decode cX4_odds 116 = .ok (.lmul, 1) := by decide +kernel
theorem dX4_odds_117 : decode cX4_odds 117 = .ok (.lstore 7, 2) := by decide +kernel
theorem dX4_odds_119 : decode cX4_odds 119 = .ok (.iinc 9 1, 3) := by decide +kernel
theorem dX4_odds_122 : decode cX4_odds 122 = .ok (.goto (-40), 3) := by decide +kernel
theorem dX4_odds_125 : decode cX4_odds 125 = .ok (.lload 5, 2) := by decide +kernel
theorem dX4_odds_127 : decode cX4_odds 127 = .ok (.lload 7, 2) := by decide +kernel
theorem dX4_odds_129 : decode cX4_odds 129 = .ok (.iload_n 3, 1) := by decide +kernel
theorem dX4_odds_130 : decode cX4_odds 130 = .ok (.invokestatic 220, 3) := by decide +kernel
theorem dX4_odds_133 : decode cX4_odds 133 = .ok (.lreturn, 1) := by decide +kernel
set_option maxRecDepth 20000 in
theorem ggX4_hope_X4_isBelow : GoodIn wsX4_hope wsX4_isBelow := goodIn_r _ [8] (by decide +kernel) (by decide +kernel)
set_option maxRecDepth 20000 in
theorem gX4_hope_X4_isBelow : GoodIn wsX4_hope (va_wsS RX4 91 yX4_isBelow wsX4_isBelow) := goodIn_app (goodIn_of _ (by decide +kernel)) ggX4_hope_X4_isBelow
set_option maxRecDepth 20000 in
theorem ggX4_hope_X4_partOf : GoodIn wsX4_hope wsX4_partOf := goodIn_r _ [11, 1] (by decide +kernel) (by decide +kernel)
set_option maxRecDepth 20000 in
theorem gX4_hope_X4_partOf : GoodIn wsX4_hope (va_wsS RX4 220 yX4_partOf wsX4_partOf) := goodIn_app (goodIn_of _ (by decide +kernel)) ggX4_hope_X4_partOf
theorem dX4_hope_0 : decode cX4_hope 0 = .ok (.iload_n 1, 1) := by decide +kernel
theorem dX4_hope_1 : decode cX4_hope 1 = .ok (.ifCond .lt 17, 3) := by decide +kernel
theorem dX4_hope_4 : decode cX4_hope 4 = .ok (.iload_n 1, 1) := by decide +kernel
theorem dX4_hope_5 : decode cX4_hope 5 = .ok (.bipush 99, 2) := by decide +kernel
theorem dX4_hope_7 : decode cX4_hope 7 = .ok (.if_icmp .gt 11, 3) := by decide +kernel
theorem dX4_hope_10 : decode cX4_hope 10 = .ok (.iload_n 2, 1) := by decide +kernel
theorem dX4_hope_11 : decode cX4_hope 11 = .ok (.iconst 2, 1) := by decide +kernel
theorem dX4_hope_12 : decode cX4_hope 12 = .ok (.invokestatic 91, 3) := by decide +kernel
theorem dX4_hope_15 : decode cX4_hope 15 = .ok (.ifCond .ne 7, 3) := by decide +kernel
theorem dX4_hope_18 : decode cX4_hope 18 = .ok (.ldc2_w 216, 3) := by decide +kernel
theorem dX4_hope_21 : decode cX4_hope 21 = .ok (.lreturn, 1) := by decide +kernel
theorem dX4_hope_22 : decode cX4_hope 22 = .ok (.iload_n 1, 1) := by decide +kernel
theorem dX4_hope_23 : decode cX4_hope 23 = .ok (.i2l, 1) := by decide +kernel
theorem dX4_hope_24 : decode cX4_hope 24 = .ok (.aload_n 0, 1) := by decide +kernel
theorem dX4_hope_25 : decode cX4_hope 25 = .ok (.getfield 12, 3) := by decide +kernel
theorem dX4_hope_28 : decode cX4_hope 28 = .ok (.getfield 98, 3) := by decide +kernel
theorem dX4_hope_31 : decode cX4_hope 31 = .ok (.iconst 3, 1) := by decide +kernel
theorem dX4_hope_32 : decode cX4_hope 32 = .ok (.iaload, 1) := by decide +kernel
theorem dX4_hope_33 : decode cX4_hope 33 = .ok (.i2l, 1) := by decide +kernel
theorem dX4_hope_34 : decode cX4_hope 34 = .ok (.lmul, 1) := by decide +kernel
theorem dX4_hope_35 : decode cX4_hope 35 = .ok (.ldc2_w 218, 3) := by decide +kernel
theorem dX4_hope_38 : decode cX4_hope 38 = .ok (.iload_n 2, 1) := by decide +kernel
theorem dX4_hope_39 : decode cX4_hope 39 = .ok (.invokestatic 220, 3) := by decide +kernel
theorem dX4_hope_42 : decode cX4_hope 42 = .ok (.lreturn, 1) := by decide +kernel
theorem dX4_partOf_0 : decode cX4_partOf 0 = .ok (.lload_n 2, 1) := by decide +kernel
theorem dX4_partOf_1 : decode cX4_partOf 1 = .ok (.lstore 5, 2) := by decide +kernel
theorem dX4_partOf_3 : decode cX4_partOf 3 = .ok (.lload_n 0, 1) := by decide +kernel
theorem dX4_partOf_4 : decode cX4_partOf 4 = .ok (.lstore 7, 2) := by decide +kernel
theorem dX4_partOf_6 : decode cX4_partOf 6 = .ok (.iconst 0, 1) := by decide +kernel
theorem dX4_partOf_7 : decode cX4_partOf 7 = .ok (.istore 9, 2) := by decide +kernel
theorem dX4_partOf_9 : decode cX4_partOf 9 = .ok (.iload 9, 2) := by decide +kernel
theorem dX4_partOf_11 : decode cX4_partOf 11 = .ok (.sipush 1000, 3) := by decide +kernel
theorem dX4_partOf_14 : decode cX4_partOf 14 = .ok (.if_icmp .ge 31, 3) := by decide +kernel
theorem dX4_partOf_17 : decode cX4_partOf 17 = .ok (.lload 7, 2) := by decide +kernel
theorem dX4_partOf_19 : decode cX4_partOf 19 = .ok (.lconst 0, 1) := by decide +kernel
theorem dX4_partOf_20 : decode cX4_partOf 20 = .ok (.lcmp, 1) := by decide +kernel
theorem dX4_partOf_21 : decode cX4_partOf 21 = .ok (.ifCond .eq 24, 3) := by decide +kernel
theorem dX4_partOf_24 : decode cX4_partOf 24 = .ok (.lload 5, 2) := by decide +kernel
theorem dX4_partOf_26 : decode cX4_partOf 26 = .ok (.lload 7, 2) := by decide +kernel
theorem dX4_partOf_28 : decode cX4_partOf 28 = .ok (.lrem, 1) := by decide +kernel
theorem dX4_partOf_29 : decode cX4_partOf 29 = .ok (.lstore 10, 2) := by decide +kernel
theorem dX4_partOf_31 : decode cX4_partOf 31 = .ok (.lload 7, 2) := by decide +kernel
theorem dX4_partOf_33 : decode cX4_partOf 33 = .ok (.lstore 5, 2) := by decide +kernel
theorem dX4_partOf_35 : decode cX4_partOf 35 = .ok (.lload 10, 2) := by decide +kernel
theorem dX4_partOf_37 : decode cX4_partOf 37 = .ok (.lstore 7, 2) := by decide +kernel
theorem dX4_partOf_39 : decode cX4_partOf 39 = .ok (.iinc 9 1, 3) := by decide +kernel
theorem dX4_partOf_42 : decode cX4_partOf 42 = .ok (.goto (-33), 3) := by decide +kernel
theorem dX4_partOf_45 : decode cX4_partOf 45 = .ok (.lload 5, 2) := by decide +kernel
theorem dX4_partOf_47 : decode cX4_partOf 47 = .ok (.lconst 0, 1) := by decide +kernel
theorem dX4_partOf_48 : decode cX4_partOf 48 = .ok (.lcmp, 1) := by decide +kernel
theorem dX4_partOf_49 : decode cX4_partOf 49 = .ok (.ifCond .ne 7, 3) := by decide +kernel
theorem dX4_partOf_52 : decode cX4_partOf 52 = .ok (.ldc2_w 216, 3) := by decide +kernel
theorem dX4_partOf_55 : decode cX4_partOf 55 = .ok (.lreturn, 1) := by decide +kernel
theorem dX4_partOf_56 : decode cX4_partOf 56 = .ok (.iload 4, 2) := by decide +kernel
theorem dX4_partOf_58 : decode cX4_partOf 58 = .ok (.ifCond .ne 10, 3) := by decide +kernel
theorem dX4_partOf_61 : decode cX4_partOf 61 = .ok (.lload_n 0, 1) := by decide +kernel
theorem dX4_partOf_62 : decode cX4_partOf 62 = .ok (.lload 5, 2) := by decide +kernel
theorem dX4_partOf_64 : decode cX4_partOf 64 = .ok (.ldiv, 1) := by decide +kernel
theorem dX4_partOf_65 : decode cX4_partOf 65 = .ok (.goto 7, 3) := by decide +kernel
theorem dX4_partOf_68 : decode cX4_partOf 68 = .ok (.lload_n 2, 1) := by decide +kernel
theorem dX4_partOf_69 : decode cX4_partOf 69 = .ok (.lload 5, 2) := by decide +kernel
theorem dX4_partOf_71 : decode cX4_partOf 71 = .ok (.ldiv, 1) := by decide +kernel
theorem dX4_partOf_72 : decode cX4_partOf 72 = .ok (.lreturn, 1) := by decide +kernel
set_option maxRecDepth 20000 in
theorem ggX4_prove_X4_isName : GoodIn wsX4_prove wsX4_isName := goodIn_r _ [9, 2, 10, 11, 12, 8, 13, 103, 104, 105, 106, 107, 108, 109, 110, 111, 112, 113, 114, 115, 116, 117, 118, 119, 120, 121, 122, 123, 124, 125, 126, 127, 128, 129, 130, 131, 132] (by decide +kernel) (by decide +kernel)
set_option maxRecDepth 20000 in
theorem gX4_prove_X4_isName : GoodIn wsX4_prove (wsV RX4 105 RX4 yX4_isName wsX4_isName) := goodIn_app (goodIn_of _ (by decide +kernel)) ggX4_prove_X4_isName
set_option maxRecDepth 20000 in
theorem ggX4_prove_X2_become : GoodIn wsX4_prove wsX2_become := goodIn_r _ [18, 19, 20, 21, 22, 23, 24, 25, 26, 27, 28, 29, 30, 31, 32, 33, 34, 35, 36, 118, 119, 120, 121, 122, 123, 124, 125, 126, 127, 128, 129, 130, 131, 132] (by decide +kernel) (by decide +kernel)
set_option maxRecDepth 20000 in
theorem gX4_prove_X2_become : GoodIn wsX4_prove (wsV RX4 84 RX2 yX2_become wsX2_become) := goodIn_app (goodIn_of _ (by decide +kernel)) ggX4_prove_X2_become
set_option maxRecDepth 20000 in
theorem ggX4_prove_X2_passNight : GoodIn wsX4_prove wsX2_passNight := goodIn_r _ [40, 19, 32, 41, 33, 42, 43, 44, 45, 35, 46, 47, 48, 17, 49, 26, 30, 31, 28, 29, 50, 51, 52, 53, 27, 54, 55, 56, 57, 36, 58, 59, 60, 61, 24, 62, 63, 64, 65, 66, 8, 67, 68, 69, 70, 71, 72, 73, 74, 75, 76, 25, 77, 78, 79, 80, 81, 82, 83, 84, 85, 86, 87, 88, 89, 90, 91, 92, 93, 94, 95, 118, 119, 120, 121, 122, 123, 124, 125, 126, 127, 128, 129, 130, 131, 132] (by decide +kernel) (by decide +kernel)
set_option maxRecDepth 20000 in
theorem gX4_prove_X2_passNight : GoodIn wsX4_prove (wsV RX4 149 RX2 yX2_passNight wsX2_passNight) := goodIn_app (goodIn_of _ (by decide +kernel)) ggX4_prove_X2_passNight
set_option maxRecDepth 20000 in
theorem ggX4_prove_X4_rowPart : GoodIn wsX4_prove wsX4_rowPart := goodIn_r _ [99, 1, 100, 101, 102, 93, 94, 17, 95, 26, 30, 25, 29, 103, 104, 105, 106, 107, 108, 109, 110, 111, 112, 113, 114, 115, 116, 117, 118, 119, 120, 121, 122, 123, 124, 125, 126, 127, 128, 129, 130, 131, 132] (by decide +kernel) (by decide +kernel)
set_option maxRecDepth 20000 in
theorem gX4_prove_X4_rowPart : GoodIn wsX4_prove (wsV RX4 224 RX4 yX4_rowPart wsX4_rowPart) := goodIn_app (goodIn_of _ (by decide +kernel)) ggX4_prove_X4_rowPart
theorem dX4_prove_0 : decode cX4_prove 0 = .ok (.aload_n 0, 1) := by decide +kernel
theorem dX4_prove_1 : decode cX4_prove 1 = .ok (.iload_n 1, 1) := by decide +kernel
theorem dX4_prove_2 : decode cX4_prove 2 = .ok (.invokevirtual 105, 3) := by decide +kernel
theorem dX4_prove_5 : decode cX4_prove 5 = .ok (.ifCond .eq 14, 3) := by decide +kernel
theorem dX4_prove_8 : decode cX4_prove 8 = .ok (.iload_n 2, 1) := by decide +kernel
theorem dX4_prove_9 : decode cX4_prove 9 = .ok (.iconst 1, 1) := by decide +kernel
theorem dX4_prove_10 : decode cX4_prove 10 = .ok (.if_icmp .lt 9, 3) := by decide +kernel
theorem dX4_prove_13 : decode cX4_prove 13 = .ok (.iload_n 2, 1) := by decide +kernel
theorem dX4_prove_14 : decode cX4_prove 14 = .ok (.bipush 10, 2) := by decide +kernel
theorem dX4_prove_16 : decode cX4_prove 16 = .ok (.if_icmp .le 5, 3) := by decide +kernel
theorem dX4_prove_19 : decode cX4_prove 19 = .ok (.iconst (-1), 1) := by decide +kernel
theorem dX4_prove_20 : decode cX4_prove 20 = .ok (.ireturn, 1) := by decide +kernel
theorem dX4_prove_21 : decode cX4_prove 21 = .ok (.aload_n 0, 1) := by decide +kernel
theorem dX4_prove_22 : decode cX4_prove 22 = .ok (.getfield 16, 3) := by decide +kernel
theorem dX4_prove_25 : decode cX4_prove 25 = .ok (.aload_n 0, 1) := by decide +kernel
theorem dX4_prove_26 : decode cX4_prove 26 = .ok (.getfield 12, 3) := by decide +kernel
theorem dX4_prove_29 : decode cX4_prove 29 = .ok (.invokevirtual 84, 3) := by decide +kernel
theorem dX4_prove_32 : decode cX4_prove 32 = .ok (.iconst 0, 1) := by decide +kernel
theorem dX4_prove_33 : decode cX4_prove 33 = .ok (.istore_n 3, 1) := by decide +kernel
theorem dX4_prove_34 : decode cX4_prove 34 = .ok (.iload_n 3, 1) := by decide +kernel
theorem dX4_prove_35 : decode cX4_prove 35 = .ok (.iload_n 2, 1) := by decide +kernel
theorem dX4_prove_36 : decode cX4_prove 36 = .ok (.if_icmp .ge 49, 3) := by decide +kernel
theorem dX4_prove_39 : decode cX4_prove 39 = .ok (.aload_n 0, 1) := by decide +kernel
theorem dX4_prove_40 : decode cX4_prove 40 = .ok (.getfield 16, 3) := by decide +kernel
theorem dX4_prove_43 : decode cX4_prove 43 = .ok (.invokevirtual 149, 3) := by decide +kernel
theorem dX4_prove_46 : decode cX4_prove 46 = .ok (.iconst 0, 1) := by decide +kernel
theorem dX4_prove_47 : decode cX4_prove 47 = .ok (.istore 4, 2) := by decide +kernel
theorem dX4_prove_49 : decode cX4_prove 49 = .ok (.iload 4, 2) := by decide +kernel
theorem dX4_prove_51 : decode cX4_prove 51 = .ok (.iconst 3, 1) := by decide +kernel
theorem dX4_prove_52 : decode cX4_prove 52 = .ok (.if_icmp .ge 27, 3) := by decide +kernel
theorem dX4_prove_55 : decode cX4_prove 55 = .ok (.aload_n 0, 1) := by decide +kernel
theorem dX4_prove_56 : decode cX4_prove 56 = .ok (.getfield 37, 3) := by decide +kernel
theorem dX4_prove_59 : decode cX4_prove 59 = .ok (.iload_n 3, 1) := by decide +kernel
theorem dX4_prove_60 : decode cX4_prove 60 = .ok (.iconst 3, 1) := by decide +kernel
theorem dX4_prove_61 : decode cX4_prove 61 = .ok (.imul, 1) := by decide +kernel
theorem dX4_prove_62 : decode cX4_prove 62 = .ok (.iload 4, 2) := by decide +kernel
theorem dX4_prove_64 : decode cX4_prove 64 = .ok (.iadd, 1) := by decide +kernel
theorem dX4_prove_65 : decode cX4_prove 65 = .ok (.aload_n 0, 1) := by decide +kernel
theorem dX4_prove_66 : decode cX4_prove 66 = .ok (.iload_n 1, 1) := by decide +kernel
theorem dX4_prove_67 : decode cX4_prove 67 = .ok (.iload 4, 2) := by decide +kernel
theorem dX4_prove_69 : decode cX4_prove 69 = .ok (.invokevirtual 224, 3) := by decide +kernel
theorem dX4_prove_72 : decode cX4_prove 72 = .ok (.iastore, 1) := by decide +kernel
theorem dX4_prove_73 : decode cX4_prove 73 = .ok (.iinc 4 1, 3) := by decide +kernel
theorem dX4_prove_76 : decode cX4_prove 76 = .ok (.goto (-27), 3) := by decide +kernel
theorem dX4_prove_79 : decode cX4_prove 79 = .ok (.iinc 3 1, 3) := by decide +kernel
theorem dX4_prove_82 : decode cX4_prove 82 = .ok (.goto (-48), 3) := by decide +kernel
theorem dX4_prove_85 : decode cX4_prove 85 = .ok (.aload_n 0, 1) := by decide +kernel
theorem dX4_prove_86 : decode cX4_prove 86 = .ok (.iload_n 2, 1) := by decide +kernel
theorem dX4_prove_87 : decode cX4_prove 87 = .ok (.putfield 41, 3) := by decide +kernel
theorem dX4_prove_90 : decode cX4_prove 90 = .ok (.iload_n 2, 1) := by decide +kernel
theorem dX4_prove_91 : decode cX4_prove 91 = .ok (.ireturn, 1) := by decide +kernel
set_option maxRecDepth 20000 in
theorem ggX4_rowPart_X2_looksOfAll : GoodIn wsX4_rowPart wsX2_looksOfAll := goodIn_r _ [8, 9, 10, 11, 12, 28, 29, 30, 31, 32, 33, 34, 35, 36, 37, 38, 39, 40, 41, 42] (by decide +kernel) (by decide +kernel)
set_option maxRecDepth 20000 in
theorem gX4_rowPart_X2_looksOfAll : GoodIn wsX4_rowPart (wsV RX4 152 RX2 yX2_looksOfAll wsX2_looksOfAll) := goodIn_app (goodIn_of _ (by decide +kernel)) ggX4_rowPart_X2_looksOfAll
theorem dX4_rowPart_0 : decode cX4_rowPart 0 = .ok (.iload_n 2, 1) := by decide +kernel
theorem dX4_rowPart_1 : decode cX4_rowPart 1 = .ok (.ifCond .ne 13, 3) := by decide +kernel
theorem dX4_rowPart_4 : decode cX4_rowPart 4 = .ok (.aload_n 0, 1) := by decide +kernel
theorem dX4_rowPart_5 : decode cX4_rowPart 5 = .ok (.getfield 16, 3) := by decide +kernel
theorem dX4_rowPart_8 : decode cX4_rowPart 8 = .ok (.getfield 118, 3) := by decide +kernel
theorem dX4_rowPart_11 : decode cX4_rowPart 11 = .ok (.iload_n 1, 1) := by decide +kernel
theorem dX4_rowPart_12 : decode cX4_rowPart 12 = .ok (.iaload, 1) := by decide +kernel
theorem dX4_rowPart_13 : decode cX4_rowPart 13 = .ok (.ireturn, 1) := by decide +kernel
theorem dX4_rowPart_14 : decode cX4_rowPart 14 = .ok (.iload_n 2, 1) := by decide +kernel
theorem dX4_rowPart_15 : decode cX4_rowPart 15 = .ok (.iconst 1, 1) := by decide +kernel
theorem dX4_rowPart_16 : decode cX4_rowPart 16 = .ok (.if_icmp .ne 15, 3) := by decide +kernel
theorem dX4_rowPart_19 : decode cX4_rowPart 19 = .ok (.aload_n 0, 1) := by decide +kernel
theorem dX4_rowPart_20 : decode cX4_rowPart 20 = .ok (.getfield 16, 3) := by decide +kernel
theorem dX4_rowPart_23 : decode cX4_rowPart 23 = .ok (.getfield 115, 3) := by decide +kernel
theorem dX4_rowPart_26 : decode cX4_rowPart 26 = .ok (.iload_n 1, 1) := by decide +kernel
theorem dX4_rowPart_27 : decode cX4_rowPart 27 = .ok (.iaload, 1) := by decide +kernel
theorem dX4_rowPart_28 : decode cX4_rowPart 28 = .ok (.goto 10, 3) := by decide +kernel
theorem dX4_rowPart_31 : decode cX4_rowPart 31 = .ok (.aload_n 0, 1) := by decide +kernel
theorem dX4_rowPart_32 : decode cX4_rowPart 32 = .ok (.getfield 16, 3) := by decide +kernel
theorem dX4_rowPart_35 : decode cX4_rowPart 35 = .ok (.invokevirtual 152, 3) := by decide +kernel
theorem dX4_rowPart_38 : decode cX4_rowPart 38 = .ok (.ireturn, 1) := by decide +kernel
set_option maxRecDepth 20000 in
theorem ggX4_row_X4_isBelow : GoodIn wsX4_row wsX4_isBelow := goodIn_r _ [6] (by decide +kernel) (by decide +kernel)
set_option maxRecDepth 20000 in
theorem gX4_row_X4_isBelow : GoodIn wsX4_row (va_wsS RX4 91 yX4_isBelow wsX4_isBelow) := goodIn_app (goodIn_of _ (by decide +kernel)) ggX4_row_X4_isBelow
theorem dX4_row_0 : decode cX4_row 0 = .ok (.iload_n 1, 1) := by decide +kernel
theorem dX4_row_1 : decode cX4_row 1 = .ok (.aload_n 0, 1) := by decide +kernel
theorem dX4_row_2 : decode cX4_row 2 = .ok (.getfield 41, 3) := by decide +kernel
theorem dX4_row_5 : decode cX4_row 5 = .ok (.invokestatic 91, 3) := by decide +kernel
theorem dX4_row_8 : decode cX4_row 8 = .ok (.ifCond .eq 24, 3) := by decide +kernel
theorem dX4_row_11 : decode cX4_row 11 = .ok (.iload_n 2, 1) := by decide +kernel
theorem dX4_row_12 : decode cX4_row 12 = .ok (.iconst 3, 1) := by decide +kernel
theorem dX4_row_13 : decode cX4_row 13 = .ok (.invokestatic 91, 3) := by decide +kernel
theorem dX4_row_16 : decode cX4_row 16 = .ok (.ifCond .eq 16, 3) := by decide +kernel
theorem dX4_row_19 : decode cX4_row 19 = .ok (.aload_n 0, 1) := by decide +kernel
theorem dX4_row_20 : decode cX4_row 20 = .ok (.getfield 37, 3) := by decide +kernel
theorem dX4_row_23 : decode cX4_row 23 = .ok (.iload_n 1, 1) := by decide +kernel
theorem dX4_row_24 : decode cX4_row 24 = .ok (.iconst 3, 1) := by decide +kernel
theorem dX4_row_25 : decode cX4_row 25 = .ok (.imul, 1) := by decide +kernel
theorem dX4_row_26 : decode cX4_row 26 = .ok (.iload_n 2, 1) := by decide +kernel
theorem dX4_row_27 : decode cX4_row 27 = .ok (.iadd, 1) := by decide +kernel
theorem dX4_row_28 : decode cX4_row 28 = .ok (.iaload, 1) := by decide +kernel
theorem dX4_row_29 : decode cX4_row 29 = .ok (.goto 5, 3) := by decide +kernel
theorem dX4_row_32 : decode cX4_row 32 = .ok (.bipush (-9), 2) := by decide +kernel
theorem dX4_row_34 : decode cX4_row 34 = .ok (.ireturn, 1) := by decide +kernel
set_option maxRecDepth 20000 in
theorem ggX4_alterRow_X4_isBelow : GoodIn wsX4_alterRow wsX4_isBelow := goodIn_r _ [6] (by decide +kernel) (by decide +kernel)
set_option maxRecDepth 20000 in
theorem gX4_alterRow_X4_isBelow : GoodIn wsX4_alterRow (va_wsS RX4 91 yX4_isBelow wsX4_isBelow) := goodIn_app (goodIn_of _ (by decide +kernel)) ggX4_alterRow_X4_isBelow
theorem dX4_alterRow_0 : decode cX4_alterRow 0 = .ok (.iload_n 1, 1) := by decide +kernel
theorem dX4_alterRow_1 : decode cX4_alterRow 1 = .ok (.aload_n 0, 1) := by decide +kernel
theorem dX4_alterRow_2 : decode cX4_alterRow 2 = .ok (.getfield 41, 3) := by decide +kernel
theorem dX4_alterRow_5 : decode cX4_alterRow 5 = .ok (.invokestatic 91, 3) := by decide +kernel
theorem dX4_alterRow_8 : decode cX4_alterRow 8 = .ok (.ifCond .eq 11, 3) := by decide +kernel
theorem dX4_alterRow_11 : decode cX4_alterRow 11 = .ok (.iload_n 2, 1) := by decide +kernel
theorem dX4_alterRow_12 : decode cX4_alterRow 12 = .ok (.iconst 3, 1) := by decide +kernel
theorem dX4_alterRow_13 : decode cX4_alterRow 13 = .ok (.invokestatic 91, 3) := by decide +kernel
theorem dX4_alterRow_16 : decode cX4_alterRow 16 = .ok (.ifCond .ne 6, 3) := by decide +kernel
theorem dX4_alterRow_19 : decode cX4_alterRow 19 = .ok (.bipush (-9), 2) := by decide +kernel
theorem dX4_alterRow_21 : decode cX4_alterRow 21 = .ok (.ireturn, 1) := by decide +kernel
theorem dX4_alterRow_22 : decode cX4_alterRow 22 = .ok (.aload_n 0, 1) := by decide +kernel
theorem dX4_alterRow_23 : decode cX4_alterRow 23 = .ok (.getfield 37, 3) := by decide +kernel
theorem dX4_alterRow_26 : decode cX4_alterRow 26 = .ok (.iload_n 1, 1) := by decide +kernel
theorem dX4_alterRow_27 : decode cX4_alterRow 27 = .ok (.iconst 3, 1) := by decide +kernel
theorem dX4_alterRow_28 : decode cX4_alterRow 28 = .ok (.imul, 1) := by decide +kernel
theorem dX4_alterRow_29 : decode cX4_alterRow 29 = .ok (.iload_n 2, 1) := by decide +kernel
theorem dX4_alterRow_30 : decode cX4_alterRow 30 = .ok (.iadd, 1) := by decide +kernel
theorem dX4_alterRow_31 : decode cX4_alterRow 31 = .ok (.iaload, 1) := by decide +kernel
theorem dX4_alterRow_32 : decode cX4_alterRow 32 = .ok (.istore 4, 2) := by decide +kernel
theorem dX4_alterRow_34 : decode cX4_alterRow 34 = .ok (.aload_n 0, 1) := by decide +kernel
theorem dX4_alterRow_35 : decode cX4_alterRow 35 = .ok (.getfield 37, 3) := by decide +kernel
theorem dX4_alterRow_38 : decode cX4_alterRow 38 = .ok (.iload_n 1, 1) := by decide +kernel
theorem dX4_alterRow_39 : decode cX4_alterRow 39 = .ok (.iconst 3, 1) := by decide +kernel
theorem dX4_alterRow_40 : decode cX4_alterRow 40 = .ok (.imul, 1) := by decide +kernel
theorem dX4_alterRow_41 : decode cX4_alterRow 41 = .ok (.iload_n 2, 1) := by decide +kernel
theorem dX4_alterRow_42 : decode cX4_alterRow 42 = .ok (.iadd, 1) := by decide +kernel
theorem dX4_alterRow_43 : decode cX4_alterRow 43 = .ok (.iload_n 3, 1) := by decide +kernel
theorem dX4_alterRow_44 : decode cX4_alterRow 44 = .ok (.iastore, 1) := by decide +kernel
theorem dX4_alterRow_45 : decode cX4_alterRow 45 = .ok (.iload 4, 2) := by decide +kernel
theorem dX4_alterRow_47 : decode cX4_alterRow 47 = .ok (.ireturn, 1) := by decide +kernel
set_option maxRecDepth 20000 in
theorem ggX4_judge_X4_isName : GoodIn wsX4_judge wsX4_isName := goodIn_r _ [9, 2, 10, 11, 12, 8, 13, 103, 104, 105, 106, 107, 108, 109, 110, 111, 112, 113, 114, 115, 116, 117, 118, 119, 120, 121, 122, 123, 124, 125, 126, 127, 128, 129, 130, 131, 132] (by decide +kernel) (by decide +kernel)
set_option maxRecDepth 20000 in
theorem gX4_judge_X4_isName : GoodIn wsX4_judge (wsV RX4 105 RX4 yX4_isName wsX4_isName) := goodIn_app (goodIn_of _ (by decide +kernel)) ggX4_judge_X4_isName
set_option maxRecDepth 20000 in
theorem ggX4_judge_X2_become : GoodIn wsX4_judge wsX2_become := goodIn_r _ [18, 19, 20, 21, 22, 23, 24, 25, 26, 27, 28, 29, 30, 31, 32, 33, 34, 35, 36, 118, 119, 120, 121, 122, 123, 124, 125, 126, 127, 128, 129, 130, 131, 132] (by decide +kernel) (by decide +kernel)
set_option maxRecDepth 20000 in
theorem gX4_judge_X2_become : GoodIn wsX4_judge (wsV RX4 84 RX2 yX2_become wsX2_become) := goodIn_app (goodIn_of _ (by decide +kernel)) ggX4_judge_X2_become
set_option maxRecDepth 20000 in
theorem ggX4_judge_X2_passNight : GoodIn wsX4_judge wsX2_passNight := goodIn_r _ [40, 19, 32, 41, 33, 42, 43, 44, 45, 35, 46, 47, 48, 17, 49, 26, 30, 31, 28, 29, 50, 51, 52, 53, 27, 54, 55, 56, 57, 36, 58, 59, 60, 61, 24, 62, 63, 64, 65, 66, 8, 67, 68, 69, 70, 71, 72, 73, 74, 75, 76, 25, 77, 78, 79, 80, 81, 82, 83, 84, 85, 86, 87, 88, 89, 90, 91, 92, 93, 94, 95, 118, 119, 120, 121, 122, 123, 124, 125, 126, 127, 128, 129, 130, 131, 132] (by decide +kernel) (by decide +kernel)
set_option maxRecDepth 20000 in
theorem gX4_judge_X2_passNight : GoodIn wsX4_judge (wsV RX4 149 RX2 yX2_passNight wsX2_passNight) := goodIn_app (goodIn_of _ (by decide +kernel)) ggX4_judge_X2_passNight
set_option maxRecDepth 20000 in
theorem ggX4_judge_X4_rowPart : GoodIn wsX4_judge wsX4_rowPart := goodIn_r _ [99, 1, 100, 101, 102, 93, 94, 17, 95, 26, 30, 25, 29, 103, 104, 105, 106, 107, 108, 109, 110, 111, 112, 113, 114, 115, 116, 117, 118, 119, 120, 121, 122, 123, 124, 125, 126, 127, 128, 129, 130, 131, 132] (by decide +kernel) (by decide +kernel)
set_option maxRecDepth 20000 in
theorem gX4_judge_X4_rowPart : GoodIn wsX4_judge (wsV RX4 224 RX4 yX4_rowPart wsX4_rowPart) := goodIn_app (goodIn_of _ (by decide +kernel)) ggX4_judge_X4_rowPart
theorem dX4_judge_0 : decode cX4_judge 0 = .ok (.aload_n 0, 1) := by decide +kernel
theorem dX4_judge_1 : decode cX4_judge 1 = .ok (.iload_n 1, 1) := by decide +kernel
theorem dX4_judge_2 : decode cX4_judge 2 = .ok (.invokevirtual 105, 3) := by decide +kernel
theorem dX4_judge_5 : decode cX4_judge 5 = .ok (.ifCond .ne 5, 3) := by decide +kernel
theorem dX4_judge_8 : decode cX4_judge 8 = .ok (.iconst (-1), 1) := by decide +kernel
theorem dX4_judge_9 : decode cX4_judge 9 = .ok (.ireturn, 1) := by decide +kernel
theorem dX4_judge_10 : decode cX4_judge 10 = .ok (.aload_n 0, 1) := by decide +kernel
theorem dX4_judge_11 : decode cX4_judge 11 = .ok (.getfield 16, 3) := by decide +kernel
theorem dX4_judge_14 : decode cX4_judge 14 = .ok (.aload_n 0, 1) := by decide +kernel
theorem dX4_judge_15 : decode cX4_judge 15 = .ok (.getfield 12, 3) := by decide +kernel
theorem dX4_judge_18 : decode cX4_judge 18 = .ok (.invokevirtual 84, 3) := by decide +kernel
theorem dX4_judge_21 : decode cX4_judge 21 = .ok (.iconst 0, 1) := by decide +kernel
theorem dX4_judge_22 : decode cX4_judge 22 = .ok (.istore_n 2, 1) := by decide +kernel
theorem dX4_judge_23 : decode cX4_judge 23 = .ok (.iload_n 2, 1) := by decide +kernel
theorem dX4_judge_24 : decode cX4_judge 24 = .ok (.aload_n 0, 1) := by decide +kernel
theorem dX4_judge_25 : decode cX4_judge 25 = .ok (.getfield 41, 3) := by decide +kernel
theorem dX4_judge_28 : decode cX4_judge 28 = .ok (.if_icmp .ge 52, 3) := by decide +kernel
theorem dX4_judge_31 : decode cX4_judge 31 = .ok (.aload_n 0, 1) := by decide +kernel
theorem dX4_judge_32 : decode cX4_judge 32 = .ok (.getfield 16, 3) := by decide +kernel
theorem dX4_judge_35 : decode cX4_judge 35 = .ok (.invokevirtual 149, 3) := by decide +kernel
theorem dX4_judge_38 : decode cX4_judge 38 = .ok (.iconst 0, 1) := by decide +kernel
theorem dX4_judge_39 : decode cX4_judge 39 = .ok (.istore_n 3, 1) := by decide +kernel
theorem dX4_judge_40 : decode cX4_judge 40 = .ok (.iload_n 3, 1) := by decide +kernel
theorem dX4_judge_41 : decode cX4_judge 41 = .ok (.iconst 3, 1) := by decide +kernel
theorem dX4_judge_42 : decode cX4_judge 42 = .ok (.if_icmp .ge 32, 3) := by decide +kernel
theorem dX4_judge_45 : decode cX4_judge 45 = .ok (.aload_n 0, 1) := by decide +kernel
theorem dX4_judge_46 : decode cX4_judge 46 = .ok (.getfield 37, 3) := by decide +kernel
theorem dX4_judge_49 : decode cX4_judge 49 = .ok (.iload_n 2, 1) := by decide +kernel
theorem dX4_judge_50 : decode cX4_judge 50 = .ok (.iconst 3, 1) := by decide +kernel
theorem dX4_judge_51 : decode cX4_judge 51 = .ok (.imul, 1) := by decide +kernel
theorem dX4_judge_52 : decode cX4_judge 52 = .ok (.iload_n 3, 1) := by decide +kernel
theorem dX4_judge_53 : decode cX4_judge 53 = .ok (.iadd, 1) := by decide +kernel
theorem dX4_judge_54 : decode cX4_judge 54 = .ok (.iaload, 1) := by decide +kernel
theorem dX4_judge_55 : decode cX4_judge 55 = .ok (.aload_n 0, 1) := by decide +kernel
theorem dX4_judge_56 : decode cX4_judge 56 = .ok (.iload_n 1, 1) := by decide +kernel
theorem dX4_judge_57 : decode cX4_judge 57 = .ok (.iload_n 3, 1) := by decide +kernel
theorem dX4_judge_58 : decode cX4_judge 58 = .ok (.invokevirtual 224, 3) := by decide +kernel
theorem dX4_judge_61 : decode cX4_judge 61 = .ok (.if_icmp .eq 7, 3) := by decide +kernel
theorem dX4_judge_64 : decode cX4_judge 64 = .ok (.iload_n 2, 1) := by decide +kernel
theorem dX4_judge_65 : decode cX4_judge 65 = .ok (.iconst 1, 1) := by decide +kernel
theorem dX4_judge_66 : decode cX4_judge 66 = .ok (.iadd, 1) := by decide +kernel
theorem dX4_judge_67 : decode cX4_judge 67 = .ok (.ireturn, 1) := by decide +kernel
theorem dX4_judge_68 : decode cX4_judge 68 = .ok (.iinc 3 1, 3) := by decide +kernel
theorem dX4_judge_71 : decode cX4_judge 71 = .ok (.goto (-31), 3) := by decide +kernel
theorem dX4_judge_74 : decode cX4_judge 74 = .ok (.iinc 2 1, 3) := by decide +kernel
theorem dX4_judge_77 : decode cX4_judge 77 = .ok (.goto (-54), 3) := by decide +kernel
theorem dX4_judge_80 : decode cX4_judge 80 = .ok (.iconst 0, 1) := by decide +kernel
theorem dX4_judge_81 : decode cX4_judge 81 = .ok (.ireturn, 1) := by decide +kernel
set_option maxRecDepth 20000 in
theorem ggX4_minds_X4_isBelow : GoodIn wsX4_minds wsX4_isBelow := goodIn_r _ [11] (by decide +kernel) (by decide +kernel)
set_option maxRecDepth 20000 in
theorem gX4_minds_X4_isBelow : GoodIn wsX4_minds (va_wsS RX4 91 yX4_isBelow wsX4_isBelow) := goodIn_app (goodIn_of _ (by decide +kernel)) ggX4_minds_X4_isBelow
set_option maxRecDepth 20000 in
theorem ggX4_minds_X4_isName : GoodIn wsX4_minds wsX4_isName := goodIn_r _ [15, 1, 2, 8, 9, 10, 11, 26, 27, 28, 29, 30, 31, 32, 33, 34, 35, 36, 37, 38, 39, 40, 41, 42, 43, 44, 45, 46, 47, 48, 49, 50, 51, 52, 53, 54, 55] (by decide +kernel) (by decide +kernel)
set_option maxRecDepth 20000 in
theorem gX4_minds_X4_isName : GoodIn wsX4_minds (wsV RX4 105 RX4 yX4_isName wsX4_isName) := goodIn_app (goodIn_of _ (by decide +kernel)) ggX4_minds_X4_isName
set_option maxRecDepth 20000 in
theorem ggX4_minds_X4_heldSize : GoodIn wsX4_minds wsX4_heldSize := goodIn_r _ [18, 19, 20, 21, 22, 23, 24, 25] (by decide +kernel) (by decide +kernel)
set_option maxRecDepth 20000 in
theorem gX4_minds_X4_heldSize : GoodIn wsX4_minds (va_wsS RX4 231 yX4_heldSize wsX4_heldSize) := goodIn_app (goodIn_of _ (by decide +kernel)) ggX4_minds_X4_heldSize
theorem dX4_minds_0 : decode cX4_minds 0 = .ok (.iload_n 1, 1) := by decide +kernel
theorem dX4_minds_1 : decode cX4_minds 1 = .ok (.iconst 4, 1) := by decide +kernel
theorem dX4_minds_2 : decode cX4_minds 2 = .ok (.invokestatic 91, 3) := by decide +kernel
theorem dX4_minds_5 : decode cX4_minds 5 = .ok (.ifCond .eq 37, 3) := by decide +kernel
theorem dX4_minds_8 : decode cX4_minds 8 = .ok (.aload_n 0, 1) := by decide +kernel
theorem dX4_minds_9 : decode cX4_minds 9 = .ok (.iload_n 3, 1) := by decide +kernel
theorem dX4_minds_10 : decode cX4_minds 10 = .ok (.invokevirtual 105, 3) := by decide +kernel
theorem dX4_minds_13 : decode cX4_minds 13 = .ok (.ifCond .eq 29, 3) := by decide +kernel
theorem dX4_minds_16 : decode cX4_minds 16 = .ok (.iload 4, 2) := by decide +kernel
theorem dX4_minds_18 : decode cX4_minds 18 = .ok (.ifCond .lt 24, 3) := by decide +kernel
theorem dX4_minds_21 : decode cX4_minds 21 = .ok (.iload 4, 2) := by decide +kernel
theorem dX4_minds_23 : decode cX4_minds 23 = .ok (.bipush 8, 2) := by decide +kernel
theorem dX4_minds_25 : decode cX4_minds 25 = .ok (.if_icmp .gt 17, 3) := by decide +kernel
theorem dX4_minds_28 : decode cX4_minds 28 = .ok (.iload 4, 2) := by decide +kernel
theorem dX4_minds_30 : decode cX4_minds 30 = .ok (.aload_n 0, 1) := by decide +kernel
theorem dX4_minds_31 : decode cX4_minds 31 = .ok (.getfield 12, 3) := by decide +kernel
theorem dX4_minds_34 : decode cX4_minds 34 = .ok (.getfield 88, 3) := by decide +kernel
theorem dX4_minds_37 : decode cX4_minds 37 = .ok (.iload_n 3, 1) := by decide +kernel
theorem dX4_minds_38 : decode cX4_minds 38 = .ok (.isub, 1) := by decide +kernel
theorem dX4_minds_39 : decode cX4_minds 39 = .ok (.if_icmp .le 5, 3) := by decide +kernel
theorem dX4_minds_42 : decode cX4_minds 42 = .ok (.iconst (-1), 1) := by decide +kernel
theorem dX4_minds_43 : decode cX4_minds 43 = .ok (.ireturn, 1) := by decide +kernel
theorem dX4_minds_44 : decode cX4_minds 44 = .ok (.aload_n 0, 1) := by decide +kernel
theorem dX4_minds_45 : decode cX4_minds 45 = .ok (.getfield 46, 3) := by decide +kernel
theorem dX4_minds_48 : decode cX4_minds 48 = .ok (.iload_n 1, 1) := by decide +kernel
theorem dX4_minds_49 : decode cX4_minds 49 = .ok (.aaload, 1) := by decide +kernel
theorem dX4_minds_50 : decode cX4_minds 50 = .ok (.astore 5, 2) := by decide +kernel
theorem dX4_minds_52 : decode cX4_minds 52 = .ok (.aload 5, 2) := by decide +kernel
theorem dX4_minds_54 : decode cX4_minds 54 = .ok (.ifnonnull 6, 3) := by decide +kernel
theorem dX4_minds_57 : decode cX4_minds 57 = .ok (.bipush (-11), 2) := by decide +kernel
theorem dX4_minds_59 : decode cX4_minds 59 = .ok (.ireturn, 1) := by decide +kernel
theorem dX4_minds_60 : decode cX4_minds 60 = .ok (.aload 5, 2) := by decide +kernel
theorem dX4_minds_62 : decode cX4_minds 62 = .ok (.getfield 228, 3) := by decide +kernel
theorem dX4_minds_65 : decode cX4_minds 65 = .ok (.ifCond .eq 6, 3) := by decide +kernel
theorem dX4_minds_68 : decode cX4_minds 68 = .ok (.bipush (-13), 2) := by decide +kernel
theorem dX4_minds_70 : decode cX4_minds 70 = .ok (.ireturn, 1) := by decide +kernel
theorem dX4_minds_71 : decode cX4_minds 71 = .ok (.iload_n 2, 1) := by decide +kernel
theorem dX4_minds_72 : decode cX4_minds 72 = .ok (.ifCond .lt 24, 3) := by decide +kernel
theorem dX4_minds_75 : decode cX4_minds 75 = .ok (.iload_n 2, 1) := by decide +kernel
theorem dX4_minds_76 : decode cX4_minds 76 = .ok (.aload 5, 2) := by decide +kernel
theorem dX4_minds_78 : decode cX4_minds 78 = .ok (.getfield 210, 3) := by decide +kernel
theorem dX4_minds_81 : decode cX4_minds 81 = .ok (.if_icmp .gt 15, 3) := by decide +kernel
theorem dX4_minds_84 : decode cX4_minds 84 = .ok (.iload 4, 2) := by decide +kernel
theorem dX4_minds_86 : decode cX4_minds 86 = .ok (.aload 5, 2) := by decide +kernel
theorem dX4_minds_88 : decode cX4_minds 88 = .ok (.getfield 210, 3) := by decide +kernel
theorem dX4_minds_91 : decode cX4_minds 91 = .ok (.iload_n 2, 1) := by decide +kernel
theorem dX4_minds_92 : decode cX4_minds 92 = .ok (.isub, 1) := by decide +kernel
theorem dX4_minds_93 : decode cX4_minds 93 = .ok (.if_icmp .le 6, 3) := by decide +kernel
theorem dX4_minds_96 : decode cX4_minds 96 = .ok (.bipush (-12), 2) := by decide +kernel
theorem dX4_minds_98 : decode cX4_minds 98 = .ok (.ireturn, 1) := by decide +kernel
theorem dX4_minds_99 : decode cX4_minds 99 = .ok (.iconst 0, 1) := by decide +kernel
theorem dX4_minds_100 : decode cX4_minds 100 = .ok (.istore 6, 2) := by decide +kernel
theorem dX4_minds_102 : decode cX4_minds 102 = .ok (.iload 6, 2) := by decide +kernel
theorem dX4_minds_104 : decode cX4_minds 104 = .ok (.iload 4, 2) := by decide +kernel
theorem dX4_minds_106 : decode cX4_minds 106 = .ok (.if_icmp .ge 34, 3) := by decide +kernel
theorem dX4_minds_109 : decode cX4_minds 109 = .ok (.aload_n 0, 1) := by decide +kernel
theorem dX4_minds_110 : decode cX4_minds 110 = .ok (.getfield 12, 3) := by decide +kernel
theorem dX4_minds_113 : decode cX4_minds 113 = .ok (.getfield 115, 3) := by decide +kernel
theorem dX4_minds_116 : decode cX4_minds 116 = .ok (.iload_n 3, 1) := by decide +kernel
theorem dX4_minds_117 : decode cX4_minds 117 = .ok (.iload 6, 2) := by decide +kernel
theorem dX4_minds_119 : decode cX4_minds 119 = .ok (.iadd, 1) := by decide +kernel
theorem dX4_minds_120 : decode cX4_minds 120 = .ok (.aload 5, 2) := by decide +kernel
theorem dX4_minds_122 : decode cX4_minds 122 = .ok (.getfield 213, 3) := by decide +kernel
theorem dX4_minds_125 : decode cX4_minds 125 = .ok (.iload_n 2, 1) := by decide +kernel
theorem dX4_minds_126 : decode cX4_minds 126 = .ok (.iload 6, 2) := by decide +kernel
theorem dX4_minds_128 : decode cX4_minds 128 = .ok (.iadd, 1) := by decide +kernel
theorem dX4_minds_129 : decode cX4_minds 129 = .ok (.iaload, 1) := by decide +kernel
theorem dX4_minds_130 : decode cX4_minds 130 = .ok (.invokestatic 231, 3) := by decide +kernel
theorem dX4_minds_133 : decode cX4_minds 133 = .ok (.iastore, 1) := by decide +kernel
theorem dX4_minds_134 : decode cX4_minds 134 = .ok (.iinc 6 1, 3) := by decide +kernel
theorem dX4_minds_137 : decode cX4_minds 137 = .ok (.goto (-35), 3) := by decide +kernel
theorem dX4_minds_140 : decode cX4_minds 140 = .ok (.iload 4, 2) := by decide +kernel
theorem dX4_minds_142 : decode cX4_minds 142 = .ok (.ireturn, 1) := by decide +kernel
set_option maxRecDepth 20000 in
theorem ggX4_sheet_X4_isBelow : GoodIn wsX4_sheet wsX4_isBelow := goodIn_r _ [8] (by decide +kernel) (by decide +kernel)
set_option maxRecDepth 20000 in
theorem gX4_sheet_X4_isBelow : GoodIn wsX4_sheet (va_wsS RX4 91 yX4_isBelow wsX4_isBelow) := goodIn_app (goodIn_of _ (by decide +kernel)) ggX4_sheet_X4_isBelow
set_option maxRecDepth 20000 in
theorem ggX4_sheet_X0_init : GoodIn wsX4_sheet wsX0_init := goodIn_r _ [11, 12, 13, 14, 15, 16, 17, 18, 34, 35, 36] (by decide +kernel) (by decide +kernel)
set_option maxRecDepth 20000 in
theorem gX4_sheet_X0_init : GoodIn wsX4_sheet (wsX0_init) := ggX4_sheet_X0_init
theorem dX4_sheet_0 : decode cX4_sheet 0 = .ok (.iload_n 1, 1) := by decide +kernel
theorem dX4_sheet_1 : decode cX4_sheet 1 = .ok (.iconst 4, 1) := by decide +kernel
theorem dX4_sheet_2 : decode cX4_sheet 2 = .ok (.invokestatic 91, 3) := by decide +kernel
theorem dX4_sheet_5 : decode cX4_sheet 5 = .ok (.ifCond .eq 13, 3) := by decide +kernel
theorem dX4_sheet_8 : decode cX4_sheet 8 = .ok (.iload_n 2, 1) := by decide +kernel
theorem dX4_sheet_9 : decode cX4_sheet 9 = .ok (.iconst (-1), 1) := by decide +kernel
theorem dX4_sheet_10 : decode cX4_sheet 10 = .ok (.if_icmp .lt 8, 3) := by decide +kernel
theorem dX4_sheet_13 : decode cX4_sheet 13 = .ok (.iload_n 2, 1) := by decide +kernel
theorem dX4_sheet_14 : decode cX4_sheet 14 = .ok (.iconst 4, 1) := by decide +kernel
theorem dX4_sheet_15 : decode cX4_sheet 15 = .ok (.if_icmp .lt 5, 3) := by decide +kernel
theorem dX4_sheet_18 : decode cX4_sheet 18 = .ok (.iconst (-1), 1) := by decide +kernel
theorem dX4_sheet_19 : decode cX4_sheet 19 = .ok (.ireturn, 1) := by decide +kernel
theorem dX4_sheet_20 : decode cX4_sheet 20 = .ok (.iload_n 2, 1) := by decide +kernel
theorem dX4_sheet_21 : decode cX4_sheet 21 = .ok (.iconst (-1), 1) := by decide +kernel
theorem dX4_sheet_22 : decode cX4_sheet 22 = .ok (.if_icmp .ne 12, 3) := by decide +kernel
theorem dX4_sheet_25 : decode cX4_sheet 25 = .ok (.aload_n 0, 1) := by decide +kernel
theorem dX4_sheet_26 : decode cX4_sheet 26 = .ok (.getfield 46, 3) := by decide +kernel
theorem dX4_sheet_29 : decode cX4_sheet 29 = .ok (.iload_n 1, 1) := by decide +kernel
theorem dX4_sheet_30 : decode cX4_sheet 30 = .ok (.aconst_null, 1) := by decide +kernel
theorem dX4_sheet_31 : decode cX4_sheet 31 = .ok (.aastore, 1) := by decide +kernel
theorem dX4_sheet_32 : decode cX4_sheet 32 = .ok (.iconst 1, 1) := by decide +kernel
theorem dX4_sheet_33 : decode cX4_sheet 33 = .ok (.ireturn, 1) := by decide +kernel
theorem dX4_sheet_34 : decode cX4_sheet 34 = .ok (.iload_n 3, 1) := by decide +kernel
theorem dX4_sheet_35 : decode cX4_sheet 35 = .ok (.bipush 40, 2) := by decide +kernel
theorem dX4_sheet_37 : decode cX4_sheet 37 = .ok (.if_icmp .le 5, 3) := by decide +kernel
theorem dX4_sheet_40 : decode cX4_sheet 40 = .ok (.iconst (-1), 1) := by decide +kernel
theorem dX4_sheet_41 : decode cX4_sheet 41 = .ok (.ireturn, 1) := by decide +kernel
theorem dX4_sheet_42 : decode cX4_sheet 42 = .ok (.iload_n 3, 1) := by decide +kernel
theorem dX4_sheet_43 : decode cX4_sheet 43 = .ok (.ifCond .ge 6, 3) := by decide +kernel
theorem dX4_sheet_46 : decode cX4_sheet 46 = .ok (.bipush (-14), 2) := by decide +kernel
theorem dX4_sheet_48 : decode cX4_sheet 48 = .ok (.ireturn, 1) := by decide +kernel
theorem dX4_sheet_49 : decode cX4_sheet 49 = .ok (.aload_n 0, 1) := by decide +kernel
theorem dX4_sheet_50 : decode cX4_sheet 50 = .ok (.getfield 46, 3) := by decide +kernel
theorem dX4_sheet_53 : decode cX4_sheet 53 = .ok (.iload_n 1, 1) := by decide +kernel
theorem dX4_sheet_54 : decode cX4_sheet 54 = .ok (.new 44, 3) := by decide +kernel
theorem dX4_sheet_57 : decode cX4_sheet 57 = .ok (.dup, 1) := by decide +kernel
theorem dX4_sheet_58 : decode cX4_sheet 58 = .ok (.iload_n 2, 1) := by decide +kernel
theorem dX4_sheet_59 : decode cX4_sheet 59 = .ok (.iload_n 3, 1) := by decide +kernel
theorem dX4_sheet_60 : decode cX4_sheet 60 = .ok (.invokespecial 234, 3) := by decide +kernel
theorem dX4_sheet_63 : decode cX4_sheet 63 = .ok (.aastore, 1) := by decide +kernel
theorem dX4_sheet_64 : decode cX4_sheet 64 = .ok (.iconst 1, 1) := by decide +kernel
theorem dX4_sheet_65 : decode cX4_sheet 65 = .ok (.ireturn, 1) := by decide +kernel
set_option maxRecDepth 20000 in
theorem ggX4_put_X4_isBelow : GoodIn wsX4_put wsX4_isBelow := goodIn_r _ [8] (by decide +kernel) (by decide +kernel)
set_option maxRecDepth 20000 in
theorem gX4_put_X4_isBelow : GoodIn wsX4_put (va_wsS RX4 91 yX4_isBelow wsX4_isBelow) := goodIn_app (goodIn_of _ (by decide +kernel)) ggX4_put_X4_isBelow
set_option maxRecDepth 20000 in
theorem ggX4_put_X4_narrowed : GoodIn wsX4_put wsX4_narrowed := goodIn_r _ [11] (by decide +kernel) (by decide +kernel)
set_option maxRecDepth 20000 in
theorem gX4_put_X4_narrowed : GoodIn wsX4_put (va_wsS RX4 237 yX4_narrowed wsX4_narrowed) := goodIn_app (goodIn_of _ (by decide +kernel)) ggX4_put_X4_narrowed
theorem dX4_put_0 : decode cX4_put 0 = .ok (.iload_n 1, 1) := by decide +kernel
theorem dX4_put_1 : decode cX4_put 1 = .ok (.iconst 4, 1) := by decide +kernel
theorem dX4_put_2 : decode cX4_put 2 = .ok (.invokestatic 91, 3) := by decide +kernel
theorem dX4_put_5 : decode cX4_put 5 = .ok (.ifCond .ne 5, 3) := by decide +kernel
theorem dX4_put_8 : decode cX4_put 8 = .ok (.iconst (-1), 1) := by decide +kernel
theorem dX4_put_9 : decode cX4_put 9 = .ok (.ireturn, 1) := by decide +kernel
theorem dX4_put_10 : decode cX4_put 10 = .ok (.aload_n 0, 1) := by decide +kernel
theorem dX4_put_11 : decode cX4_put 11 = .ok (.getfield 46, 3) := by decide +kernel
theorem dX4_put_14 : decode cX4_put 14 = .ok (.iload_n 1, 1) := by decide +kernel
theorem dX4_put_15 : decode cX4_put 15 = .ok (.aaload, 1) := by decide +kernel
theorem dX4_put_16 : decode cX4_put 16 = .ok (.astore 4, 2) := by decide +kernel
theorem dX4_put_18 : decode cX4_put 18 = .ok (.aload 4, 2) := by decide +kernel
theorem dX4_put_20 : decode cX4_put 20 = .ok (.ifnonnull 6, 3) := by decide +kernel
theorem dX4_put_23 : decode cX4_put 23 = .ok (.bipush (-11), 2) := by decide +kernel
theorem dX4_put_25 : decode cX4_put 25 = .ok (.ireturn, 1) := by decide +kernel
theorem dX4_put_26 : decode cX4_put 26 = .ok (.iload_n 2, 1) := by decide +kernel
theorem dX4_put_27 : decode cX4_put 27 = .ok (.aload 4, 2) := by decide +kernel
theorem dX4_put_29 : decode cX4_put 29 = .ok (.getfield 210, 3) := by decide +kernel
theorem dX4_put_32 : decode cX4_put 32 = .ok (.invokestatic 91, 3) := by decide +kernel
theorem dX4_put_35 : decode cX4_put 35 = .ok (.ifCond .ne 6, 3) := by decide +kernel
theorem dX4_put_38 : decode cX4_put 38 = .ok (.bipush (-12), 2) := by decide +kernel
theorem dX4_put_40 : decode cX4_put 40 = .ok (.ireturn, 1) := by decide +kernel
theorem dX4_put_41 : decode cX4_put 41 = .ok (.aload 4, 2) := by decide +kernel
theorem dX4_put_43 : decode cX4_put 43 = .ok (.getfield 213, 3) := by decide +kernel
theorem dX4_put_46 : decode cX4_put 46 = .ok (.iload_n 2, 1) := by decide +kernel
theorem dX4_put_47 : decode cX4_put 47 = .ok (.aload 4, 2) := by decide +kernel
theorem dX4_put_49 : decode cX4_put 49 = .ok (.getfield 228, 3) := by decide +kernel
theorem dX4_put_52 : decode cX4_put 52 = .ok (.iload_n 3, 1) := by decide +kernel
theorem dX4_put_53 : decode cX4_put 53 = .ok (.invokestatic 237, 3) := by decide +kernel
theorem dX4_put_56 : decode cX4_put 56 = .ok (.iastore, 1) := by decide +kernel
theorem dX4_put_57 : decode cX4_put 57 = .ok (.iconst 1, 1) := by decide +kernel
theorem dX4_put_58 : decode cX4_put 58 = .ok (.ireturn, 1) := by decide +kernel
set_option maxRecDepth 20000 in
theorem ggX4_item_X4_isBelow : GoodIn wsX4_item wsX4_isBelow := goodIn_r _ [8] (by decide +kernel) (by decide +kernel)
set_option maxRecDepth 20000 in
theorem gX4_item_X4_isBelow : GoodIn wsX4_item (va_wsS RX4 91 yX4_isBelow wsX4_isBelow) := goodIn_app (goodIn_of _ (by decide +kernel)) ggX4_item_X4_isBelow
theorem dX4_item_0 : decode cX4_item 0 = .ok (.iload_n 1, 1) := by decide +kernel
theorem dX4_item_1 : decode cX4_item 1 = .ok (.iconst 4, 1) := by decide +kernel
theorem dX4_item_2 : decode cX4_item 2 = .ok (.invokestatic 91, 3) := by decide +kernel
theorem dX4_item_5 : decode cX4_item 5 = .ok (.ifCond .eq 11, 3) := by decide +kernel
theorem dX4_item_8 : decode cX4_item 8 = .ok (.iload_n 2, 1) := by decide +kernel
theorem dX4_item_9 : decode cX4_item 9 = .ok (.iconst 4, 1) := by decide +kernel
theorem dX4_item_10 : decode cX4_item 10 = .ok (.invokestatic 91, 3) := by decide +kernel
theorem dX4_item_13 : decode cX4_item 13 = .ok (.ifCond .ne 5, 3) := by decide +kernel
theorem dX4_item_16 : decode cX4_item 16 = .ok (.iconst (-1), 1) := by decide +kernel
theorem dX4_item_17 : decode cX4_item 17 = .ok (.ireturn, 1) := by decide +kernel
theorem dX4_item_18 : decode cX4_item 18 = .ok (.aload_n 0, 1) := by decide +kernel
theorem dX4_item_19 : decode cX4_item 19 = .ok (.getfield 46, 3) := by decide +kernel
theorem dX4_item_22 : decode cX4_item 22 = .ok (.iload_n 1, 1) := by decide +kernel
theorem dX4_item_23 : decode cX4_item 23 = .ok (.aaload, 1) := by decide +kernel
theorem dX4_item_24 : decode cX4_item 24 = .ok (.astore 4, 2) := by decide +kernel
theorem dX4_item_26 : decode cX4_item 26 = .ok (.aload 4, 2) := by decide +kernel
theorem dX4_item_28 : decode cX4_item 28 = .ok (.ifnonnull 6, 3) := by decide +kernel
theorem dX4_item_31 : decode cX4_item 31 = .ok (.bipush (-11), 2) := by decide +kernel
theorem dX4_item_33 : decode cX4_item 33 = .ok (.ireturn, 1) := by decide +kernel
theorem dX4_item_34 : decode cX4_item 34 = .ok (.aload 4, 2) := by decide +kernel
theorem dX4_item_36 : decode cX4_item 36 = .ok (.getfield 228, 3) := by decide +kernel
theorem dX4_item_39 : decode cX4_item 39 = .ok (.iload_n 2, 1) := by decide +kernel
theorem dX4_item_40 : decode cX4_item 40 = .ok (.if_icmp .eq 6, 3) := by decide +kernel
theorem dX4_item_43 : decode cX4_item 43 = .ok (.bipush (-13), 2) := by decide +kernel
theorem dX4_item_45 : decode cX4_item 45 = .ok (.ireturn, 1) := by decide +kernel
theorem dX4_item_46 : decode cX4_item 46 = .ok (.iload_n 3, 1) := by decide +kernel
theorem dX4_item_47 : decode cX4_item 47 = .ok (.aload 4, 2) := by decide +kernel
theorem dX4_item_49 : decode cX4_item 49 = .ok (.getfield 210, 3) := by decide +kernel
theorem dX4_item_52 : decode cX4_item 52 = .ok (.invokestatic 91, 3) := by decide +kernel
theorem dX4_item_55 : decode cX4_item 55 = .ok (.ifCond .eq 13, 3) := by decide +kernel
theorem dX4_item_58 : decode cX4_item 58 = .ok (.aload 4, 2) := by decide +kernel
theorem dX4_item_60 : decode cX4_item 60 = .ok (.getfield 213, 3) := by decide +kernel
theorem dX4_item_63 : decode cX4_item 63 = .ok (.iload_n 3, 1) := by decide +kernel
theorem dX4_item_64 : decode cX4_item 64 = .ok (.iaload, 1) := by decide +kernel
theorem dX4_item_65 : decode cX4_item 65 = .ok (.goto 5, 3) := by decide +kernel
theorem dX4_item_68 : decode cX4_item 68 = .ok (.bipush (-12), 2) := by decide +kernel
theorem dX4_item_70 : decode cX4_item 70 = .ok (.ireturn, 1) := by decide +kernel
set_option maxRecDepth 20000 in
theorem ggX4_shelf_X4_isBelow : GoodIn wsX4_shelf wsX4_isBelow := goodIn_r _ [8] (by decide +kernel) (by decide +kernel)
set_option maxRecDepth 20000 in
theorem gX4_shelf_X4_isBelow : GoodIn wsX4_shelf (va_wsS RX4 91 yX4_isBelow wsX4_isBelow) := goodIn_app (goodIn_of _ (by decide +kernel)) ggX4_shelf_X4_isBelow
set_option maxRecDepth 20000 in
theorem ggX4_shelf_X4_isName : GoodIn wsX4_shelf wsX4_isName := goodIn_r _ [12, 13, 14, 5, 6, 7, 8, 15, 16, 17, 18, 19, 20, 21, 22, 23, 24, 25, 26, 27, 28, 29, 30, 31, 32, 33, 34, 35, 36, 37, 38, 39, 40, 41, 42, 43, 44] (by decide +kernel) (by decide +kernel)
set_option maxRecDepth 20000 in
theorem gX4_shelf_X4_isName : GoodIn wsX4_shelf (wsV RX4 105 RX4 yX4_isName wsX4_isName) := goodIn_app (goodIn_of _ (by decide +kernel)) ggX4_shelf_X4_isName
theorem dX4_shelf_0 : decode cX4_shelf 0 = .ok (.iload_n 1, 1) := by decide +kernel
theorem dX4_shelf_1 : decode cX4_shelf 1 = .ok (.iconst 4, 1) := by decide +kernel
theorem dX4_shelf_2 : decode cX4_shelf 2 = .ok (.invokestatic 91, 3) := by decide +kernel
theorem dX4_shelf_5 : decode cX4_shelf 5 = .ok (.ifCond .ne 5, 3) := by decide +kernel
theorem dX4_shelf_8 : decode cX4_shelf 8 = .ok (.iconst (-1), 1) := by decide +kernel
theorem dX4_shelf_9 : decode cX4_shelf 9 = .ok (.ireturn, 1) := by decide +kernel
theorem dX4_shelf_10 : decode cX4_shelf 10 = .ok (.iload_n 2, 1) := by decide +kernel
theorem dX4_shelf_11 : decode cX4_shelf 11 = .ok (.ifCond .ne 28, 3) := by decide +kernel
theorem dX4_shelf_14 : decode cX4_shelf 14 = .ok (.aload_n 0, 1) := by decide +kernel
theorem dX4_shelf_15 : decode cX4_shelf 15 = .ok (.iload_n 3, 1) := by decide +kernel
theorem dX4_shelf_16 : decode cX4_shelf 16 = .ok (.invokevirtual 105, 3) := by decide +kernel
theorem dX4_shelf_19 : decode cX4_shelf 19 = .ok (.ifCond .eq 20, 3) := by decide +kernel
theorem dX4_shelf_22 : decode cX4_shelf 22 = .ok (.aload_n 0, 1) := by decide +kernel
theorem dX4_shelf_23 : decode cX4_shelf 23 = .ok (.getfield 50, 3) := by decide +kernel
theorem dX4_shelf_26 : decode cX4_shelf 26 = .ok (.iload_n 1, 1) := by decide +kernel
theorem dX4_shelf_27 : decode cX4_shelf 27 = .ok (.iconst 1, 1) := by decide +kernel
theorem dX4_shelf_28 : decode cX4_shelf 28 = .ok (.iastore, 1) := by decide +kernel
theorem dX4_shelf_29 : decode cX4_shelf 29 = .ok (.aload_n 0, 1) := by decide +kernel
theorem dX4_shelf_30 : decode cX4_shelf 30 = .ok (.getfield 53, 3) := by decide +kernel
theorem dX4_shelf_33 : decode cX4_shelf 33 = .ok (.iload_n 1, 1) := by decide +kernel
theorem dX4_shelf_34 : decode cX4_shelf 34 = .ok (.iload_n 3, 1) := by decide +kernel
theorem dX4_shelf_35 : decode cX4_shelf 35 = .ok (.iastore, 1) := by decide +kernel
theorem dX4_shelf_36 : decode cX4_shelf 36 = .ok (.goto 68, 3) := by decide +kernel
theorem dX4_shelf_39 : decode cX4_shelf 39 = .ok (.iload_n 2, 1) := by decide +kernel
theorem dX4_shelf_40 : decode cX4_shelf 40 = .ok (.iconst 1, 1) := by decide +kernel
theorem dX4_shelf_41 : decode cX4_shelf 41 = .ok (.if_icmp .ne 46, 3) := by decide +kernel
theorem dX4_shelf_44 : decode cX4_shelf 44 = .ok (.iload_n 3, 1) := by decide +kernel
theorem dX4_shelf_45 : decode cX4_shelf 45 = .ok (.iconst 4, 1) := by decide +kernel
theorem dX4_shelf_46 : decode cX4_shelf 46 = .ok (.invokestatic 91, 3) := by decide +kernel
theorem dX4_shelf_49 : decode cX4_shelf 49 = .ok (.ifCond .eq 38, 3) := by decide +kernel
theorem dX4_shelf_52 : decode cX4_shelf 52 = .ok (.aload_n 0, 1) := by decide +kernel
theorem dX4_shelf_53 : decode cX4_shelf 53 = .ok (.getfield 50, 3) := by decide +kernel
theorem dX4_shelf_56 : decode cX4_shelf 56 = .ok (.iload_n 1, 1) := by decide +kernel
theorem dX4_shelf_57 : decode cX4_shelf 57 = .ok (.aload_n 0, 1) := by decide +kernel
theorem dX4_shelf_58 : decode cX4_shelf 58 = .ok (.getfield 46, 3) := by decide +kernel
theorem dX4_shelf_61 : decode cX4_shelf 61 = .ok (.iload_n 3, 1) := by decide +kernel
theorem dX4_shelf_62 : decode cX4_shelf 62 = .ok (.aaload, 1) := by decide +kernel
theorem dX4_shelf_63 : decode cX4_shelf 63 = .ok (.ifnonnull 7, 3) := by decide +kernel
theorem dX4_shelf_66 : decode cX4_shelf 66 = .ok (.iconst 0, 1) := by decide +kernel
theorem dX4_shelf_67 : decode cX4_shelf 67 = .ok (.goto 4, 3) := by decide +kernel
theorem dX4_shelf_70 : decode cX4_shelf 70 = .ok (.iconst 2, 1) := by decide +kernel
theorem dX4_shelf_71 : decode cX4_shelf 71 = .ok (.iastore, 1) := by decide +kernel
theorem dX4_shelf_72 : decode cX4_shelf 72 = .ok (.aload_n 0, 1) := by decide +kernel
theorem dX4_shelf_73 : decode cX4_shelf 73 = .ok (.getfield 56, 3) := by decide +kernel
theorem dX4_shelf_76 : decode cX4_shelf 76 = .ok (.iload_n 1, 1) := by decide +kernel
theorem dX4_shelf_77 : decode cX4_shelf 77 = .ok (.aload_n 0, 1) := by decide +kernel
theorem dX4_shelf_78 : decode cX4_shelf 78 = .ok (.getfield 46, 3) := by decide +kernel
theorem dX4_shelf_81 : decode cX4_shelf 81 = .ok (.iload_n 3, 1) := by decide +kernel
theorem dX4_shelf_82 : decode cX4_shelf 82 = .ok (.aaload, 1) := by decide +kernel
theorem dX4_shelf_83 : decode cX4_shelf 83 = .ok (.aastore, 1) := by decide +kernel
theorem dX4_shelf_84 : decode cX4_shelf 84 = .ok (.goto 20, 3) := by decide +kernel
theorem dX4_shelf_87 : decode cX4_shelf 87 = .ok (.iload_n 2, 1) := by decide +kernel
theorem dX4_shelf_88 : decode cX4_shelf 88 = .ok (.iconst 2, 1) := by decide +kernel
theorem dX4_shelf_89 : decode cX4_shelf 89 = .ok (.if_icmp .ne 13, 3) := by decide +kernel
theorem dX4_shelf_92 : decode cX4_shelf 92 = .ok (.aload_n 0, 1) := by decide +kernel
theorem dX4_shelf_93 : decode cX4_shelf 93 = .ok (.getfield 50, 3) := by decide +kernel
theorem dX4_shelf_96 : decode cX4_shelf 96 = .ok (.iload_n 1, 1) := by decide +kernel
theorem dX4_shelf_97 : decode cX4_shelf 97 = .ok (.iconst 0, 1) := by decide +kernel
theorem dX4_shelf_98 : decode cX4_shelf 98 = .ok (.iastore, 1) := by decide +kernel
theorem dX4_shelf_99 : decode cX4_shelf 99 = .ok (.goto 5, 3) := by decide +kernel
theorem dX4_shelf_102 : decode cX4_shelf 102 = .ok (.iconst (-1), 1) := by decide +kernel
theorem dX4_shelf_103 : decode cX4_shelf 103 = .ok (.ireturn, 1) := by decide +kernel
theorem dX4_shelf_104 : decode cX4_shelf 104 = .ok (.iconst 1, 1) := by decide +kernel
theorem dX4_shelf_105 : decode cX4_shelf 105 = .ok (.ireturn, 1) := by decide +kernel
set_option maxRecDepth 20000 in
theorem ggX4_taken_X4_isBelow : GoodIn wsX4_taken wsX4_isBelow := goodIn_r _ [11] (by decide +kernel) (by decide +kernel)
set_option maxRecDepth 20000 in
theorem gX4_taken_X4_isBelow : GoodIn wsX4_taken (va_wsS RX4 91 yX4_isBelow wsX4_isBelow) := goodIn_app (goodIn_of _ (by decide +kernel)) ggX4_taken_X4_isBelow
set_option maxRecDepth 20000 in
theorem ggX4_taken_X4_isNameOn : GoodIn wsX4_taken wsX4_isNameOn := goodIn_r _ [15, 5, 1, 16, 17, 18, 10, 19, 2, 20, 8, 9, 11, 25, 26, 27, 28, 29, 30, 31, 32, 33, 34, 35, 36, 37, 38, 39, 40, 41, 42, 43, 44, 45, 46, 47, 48, 49, 50, 51, 52, 53, 54] (by decide +kernel) (by decide +kernel)
set_option maxRecDepth 20000 in
theorem gX4_taken_X4_isNameOn : GoodIn wsX4_taken (wsV RX4 240 RX4 yX4_isNameOn wsX4_isNameOn) := goodIn_app (goodIn_of _ (by decide +kernel)) ggX4_taken_X4_isNameOn
set_option maxRecDepth 20000 in
theorem ggX4_taken_X4_isUnder : GoodIn wsX4_taken wsX4_isUnder := goodIn_r _ [23, 24, 8, 9, 10, 11] (by decide +kernel) (by decide +kernel)
set_option maxRecDepth 20000 in
theorem gX4_taken_X4_isUnder : GoodIn wsX4_taken (va_wsS RX4 243 yX4_isUnder wsX4_isUnder) := goodIn_app (goodIn_of _ (by decide +kernel)) ggX4_taken_X4_isUnder
theorem dX4_taken_0 : decode cX4_taken 0 = .ok (.iload_n 2, 1) := by decide +kernel
theorem dX4_taken_1 : decode cX4_taken 1 = .ok (.bipush 6, 2) := by decide +kernel
theorem dX4_taken_3 : decode cX4_taken 3 = .ok (.invokestatic 91, 3) := by decide +kernel
theorem dX4_taken_6 : decode cX4_taken 6 = .ok (.istore_n 3, 1) := by decide +kernel
theorem dX4_taken_7 : decode cX4_taken 7 = .ok (.iload_n 1, 1) := by decide +kernel
theorem dX4_taken_8 : decode cX4_taken 8 = .ok (.iconst 4, 1) := by decide +kernel
theorem dX4_taken_9 : decode cX4_taken 9 = .ok (.invokestatic 91, 3) := by decide +kernel
theorem dX4_taken_12 : decode cX4_taken 12 = .ok (.ifCond .eq 18, 3) := by decide +kernel
theorem dX4_taken_15 : decode cX4_taken 15 = .ok (.iload_n 3, 1) := by decide +kernel
theorem dX4_taken_16 : decode cX4_taken 16 = .ok (.ifCond .ne 16, 3) := by decide +kernel
theorem dX4_taken_19 : decode cX4_taken 19 = .ok (.iload_n 2, 1) := by decide +kernel
theorem dX4_taken_20 : decode cX4_taken 20 = .ok (.bipush 10, 2) := by decide +kernel
theorem dX4_taken_22 : decode cX4_taken 22 = .ok (.isub, 1) := by decide +kernel
theorem dX4_taken_23 : decode cX4_taken 23 = .ok (.iconst 4, 1) := by decide +kernel
theorem dX4_taken_24 : decode cX4_taken 24 = .ok (.invokestatic 91, 3) := by decide +kernel
theorem dX4_taken_27 : decode cX4_taken 27 = .ok (.ifCond .ne 5, 3) := by decide +kernel
theorem dX4_taken_30 : decode cX4_taken 30 = .ok (.iconst (-1), 1) := by decide +kernel
theorem dX4_taken_31 : decode cX4_taken 31 = .ok (.ireturn, 1) := by decide +kernel
theorem dX4_taken_32 : decode cX4_taken 32 = .ok (.aload_n 0, 1) := by decide +kernel
theorem dX4_taken_33 : decode cX4_taken 33 = .ok (.iload_n 1, 1) := by decide +kernel
theorem dX4_taken_34 : decode cX4_taken 34 = .ok (.invokevirtual 240, 3) := by decide +kernel
theorem dX4_taken_37 : decode cX4_taken 37 = .ok (.ifCond .eq 40, 3) := by decide +kernel
theorem dX4_taken_40 : decode cX4_taken 40 = .ok (.aload_n 0, 1) := by decide +kernel
theorem dX4_taken_41 : decode cX4_taken 41 = .ok (.getfield 53, 3) := by decide +kernel
theorem dX4_taken_44 : decode cX4_taken 44 = .ok (.iload_n 1, 1) := by decide +kernel
theorem dX4_taken_45 : decode cX4_taken 45 = .ok (.iaload, 1) := by decide +kernel
theorem dX4_taken_46 : decode cX4_taken 46 = .ok (.istore 4, 2) := by decide +kernel
theorem dX4_taken_48 : decode cX4_taken 48 = .ok (.iload_n 3, 1) := by decide +kernel
theorem dX4_taken_49 : decode cX4_taken 49 = .ok (.ifCond .eq 25, 3) := by decide +kernel
theorem dX4_taken_52 : decode cX4_taken 52 = .ok (.aload_n 0, 1) := by decide +kernel
theorem dX4_taken_53 : decode cX4_taken 53 = .ok (.getfield 12, 3) := by decide +kernel
theorem dX4_taken_56 : decode cX4_taken 56 = .ok (.getfield 109, 3) := by decide +kernel
theorem dX4_taken_59 : decode cX4_taken 59 = .ok (.iload 4, 2) := by decide +kernel
theorem dX4_taken_61 : decode cX4_taken 61 = .ok (.iaload, 1) := by decide +kernel
theorem dX4_taken_62 : decode cX4_taken 62 = .ok (.iload_n 2, 1) := by decide +kernel
theorem dX4_taken_63 : decode cX4_taken 63 = .ok (.invokestatic 243, 3) := by decide +kernel
theorem dX4_taken_66 : decode cX4_taken 66 = .ok (.ifCond .eq 8, 3) := by decide +kernel
theorem dX4_taken_69 : decode cX4_taken 69 = .ok (.iload 4, 2) := by decide +kernel
theorem dX4_taken_71 : decode cX4_taken 71 = .ok (.goto 5, 3) := by decide +kernel
theorem dX4_taken_74 : decode cX4_taken 74 = .ok (.bipush (-13), 2) := by decide +kernel
theorem dX4_taken_76 : decode cX4_taken 76 = .ok (.ireturn, 1) := by decide +kernel
theorem dX4_taken_77 : decode cX4_taken 77 = .ok (.aload_n 0, 1) := by decide +kernel
theorem dX4_taken_78 : decode cX4_taken 78 = .ok (.getfield 56, 3) := by decide +kernel
theorem dX4_taken_81 : decode cX4_taken 81 = .ok (.iload_n 1, 1) := by decide +kernel
theorem dX4_taken_82 : decode cX4_taken 82 = .ok (.aaload, 1) := by decide +kernel
theorem dX4_taken_83 : decode cX4_taken 83 = .ok (.astore 4, 2) := by decide +kernel
theorem dX4_taken_85 : decode cX4_taken 85 = .ok (.aload_n 0, 1) := by decide +kernel
theorem dX4_taken_86 : decode cX4_taken 86 = .ok (.getfield 50, 3) := by decide +kernel
theorem dX4_taken_89 : decode cX4_taken 89 = .ok (.iload_n 1, 1) := by decide +kernel
theorem dX4_taken_90 : decode cX4_taken 90 = .ok (.iaload, 1) := by decide +kernel
theorem dX4_taken_91 : decode cX4_taken 91 = .ok (.iconst 2, 1) := by decide +kernel
theorem dX4_taken_92 : decode cX4_taken 92 = .ok (.if_icmp .ne 8, 3) := by decide +kernel
theorem dX4_taken_95 : decode cX4_taken 95 = .ok (.aload 4, 2) := by decide +kernel
theorem dX4_taken_97 : decode cX4_taken 97 = .ok (.ifnonnull 6, 3) := by decide +kernel
theorem dX4_taken_100 : decode cX4_taken 100 = .ok (.bipush (-11), 2) := by decide +kernel
theorem dX4_taken_102 : decode cX4_taken 102 = .ok (.ireturn, 1) := by decide +kernel
theorem dX4_taken_103 : decode cX4_taken 103 = .ok (.aload 4, 2) := by decide +kernel
theorem dX4_taken_105 : decode cX4_taken 105 = .ok (.getfield 228, 3) := by decide +kernel
theorem dX4_taken_108 : decode cX4_taken 108 = .ok (.iload_n 2, 1) := by decide +kernel
theorem dX4_taken_109 : decode cX4_taken 109 = .ok (.bipush 10, 2) := by decide +kernel
theorem dX4_taken_111 : decode cX4_taken 111 = .ok (.isub, 1) := by decide +kernel
theorem dX4_taken_112 : decode cX4_taken 112 = .ok (.if_icmp .ne 11, 3) := by decide +kernel
theorem dX4_taken_115 : decode cX4_taken 115 = .ok (.aload 4, 2) := by decide +kernel
theorem dX4_taken_117 : decode cX4_taken 117 = .ok (.getfield 210, 3) := by decide +kernel
theorem dX4_taken_120 : decode cX4_taken 120 = .ok (.goto 5, 3) := by decide +kernel
theorem dX4_taken_123 : decode cX4_taken 123 = .ok (.bipush (-13), 2) := by decide +kernel
theorem dX4_taken_125 : decode cX4_taken 125 = .ok (.ireturn, 1) := by decide +kernel
set_option maxRecDepth 20000 in
theorem ggX4_act_X4_isBelow : GoodIn wsX4_act wsX4_isBelow := goodIn_r _ [11] (by decide +kernel) (by decide +kernel)
set_option maxRecDepth 20000 in
theorem gX4_act_X4_isBelow : GoodIn wsX4_act (va_wsS RX4 91 yX4_isBelow wsX4_isBelow) := goodIn_app (goodIn_of _ (by decide +kernel)) ggX4_act_X4_isBelow
set_option maxRecDepth 20000 in
theorem ggX4_act_X4_isNameOn : GoodIn wsX4_act wsX4_isNameOn := goodIn_r _ [15, 16, 3, 17, 18, 19, 10, 20, 4, 21, 8, 9, 11, 61, 62, 63, 64, 65, 66, 67, 68, 69, 70, 71, 72, 73, 74, 75, 84, 85, 86, 87, 88, 89, 90, 91, 92, 93, 94, 95, 96, 97, 98] (by decide +kernel) (by decide +kernel)
set_option maxRecDepth 20000 in
theorem gX4_act_X4_isNameOn : GoodIn wsX4_act (wsV RX4 240 RX4 yX4_isNameOn wsX4_isNameOn) := goodIn_app (goodIn_of _ (by decide +kernel)) ggX4_act_X4_isNameOn
set_option maxRecDepth 20000 in
theorem ggX4_act_X1_become : GoodIn wsX4_act wsX1_become := goodIn_r _ [26, 27, 28, 29, 30, 31, 32, 33, 10, 34, 35, 8, 9, 11, 76, 77, 78, 79, 80, 81, 82, 83] (by decide +kernel) (by decide +kernel)
set_option maxRecDepth 20000 in
theorem gX4_act_X1_become : GoodIn wsX4_act (wsV RX4 249 RX1 yX1_become wsX1_become) := goodIn_app (goodIn_of _ (by decide +kernel)) ggX4_act_X1_become
set_option maxRecDepth 20000 in
theorem ggX4_act_X1_sprays : GoodIn wsX4_act wsX1_sprays := goodIn_r _ [39, 27, 31, 28, 29, 40, 41, 42, 25, 43, 44, 45, 76, 77, 78, 79, 80, 81, 82, 83] (by decide +kernel) (by decide +kernel)
set_option maxRecDepth 20000 in
theorem gX4_act_X1_sprays : GoodIn wsX4_act (wsV RX4 252 RX1 yX1_sprays wsX1_sprays) := goodIn_app (goodIn_of _ (by decide +kernel)) ggX4_act_X1_sprays
set_option maxRecDepth 20000 in
theorem ggX4_act_X1_drips : GoodIn wsX4_act wsX1_drips := goodIn_r _ [49, 27, 30, 29, 40, 41, 42, 25, 43, 44, 45, 50, 37, 38, 39, 31, 28, 76, 77, 78, 79, 80, 81, 82, 83] (by decide +kernel) (by decide +kernel)
set_option maxRecDepth 20000 in
theorem gX4_act_X1_drips : GoodIn wsX4_act (wsV RX4 255 RX1 yX1_drips wsX1_drips) := goodIn_app (goodIn_of _ (by decide +kernel)) ggX4_act_X1_drips
set_option maxRecDepth 20000 in
theorem ggX4_act_X1_parts : GoodIn wsX4_act wsX1_parts := goodIn_r _ [54, 27, 28, 29, 32, 40, 41, 42, 25, 43, 44, 45, 50, 37, 38, 39, 31, 76, 77, 78, 79, 80, 81, 82, 83] (by decide +kernel) (by decide +kernel)
set_option maxRecDepth 20000 in
theorem gX4_act_X1_parts : GoodIn wsX4_act (wsV RX4 258 RX1 yX1_parts wsX1_parts) := goodIn_app (goodIn_of _ (by decide +kernel)) ggX4_act_X1_parts
set_option maxRecDepth 20000 in
theorem ggX4_act_X1_fades : GoodIn wsX4_act wsX1_fades := goodIn_r _ [58, 27, 31, 28, 40, 41, 42, 25, 43, 44, 45, 59, 47, 48, 49, 30, 29, 50, 37, 38, 39, 60, 52, 53, 54, 32, 76, 77, 78, 79, 80, 81, 82, 83] (by decide +kernel) (by decide +kernel)
set_option maxRecDepth 20000 in
theorem gX4_act_X1_fades : GoodIn wsX4_act (wsV RX4 261 RX1 yX1_fades wsX1_fades) := goodIn_app (goodIn_of _ (by decide +kernel)) ggX4_act_X1_fades
theorem dX4_act_0 : decode cX4_act 0 = .ok (.aload_n 0, 1) := by decide +kernel
theorem dX4_act_1 : decode cX4_act 1 = .ok (.getfield 62, 3) := by decide +kernel
theorem dX4_act_4 : decode cX4_act 4 = .ok (.iconst 0, 1) := by decide +kernel
theorem dX4_act_5 : decode cX4_act 5 = .ok (.putfield 246, 3) := by decide +kernel
theorem dX4_act_8 : decode cX4_act 8 = .ok (.iload_n 1, 1) := by decide +kernel
theorem dX4_act_9 : decode cX4_act 9 = .ok (.iconst 4, 1) := by decide +kernel
theorem dX4_act_10 : decode cX4_act 10 = .ok (.invokestatic 91, 3) := by decide +kernel
theorem dX4_act_13 : decode cX4_act 13 = .ok (.ifCond .eq 19, 3) := by decide +kernel
theorem dX4_act_16 : decode cX4_act 16 = .ok (.iload_n 2, 1) := by decide +kernel
theorem dX4_act_17 : decode cX4_act 17 = .ok (.iconst 4, 1) := by decide +kernel
theorem dX4_act_18 : decode cX4_act 18 = .ok (.invokestatic 91, 3) := by decide +kernel
theorem dX4_act_21 : decode cX4_act 21 = .ok (.ifCond .eq 11, 3) := by decide +kernel
theorem dX4_act_24 : decode cX4_act 24 = .ok (.aload_n 0, 1) := by decide +kernel
theorem dX4_act_25 : decode cX4_act 25 = .ok (.iload_n 1, 1) := by decide +kernel
theorem dX4_act_26 : decode cX4_act 26 = .ok (.invokevirtual 240, 3) := by decide +kernel
theorem dX4_act_29 : decode cX4_act 29 = .ok (.ifCond .ne 5, 3) := by decide +kernel
theorem dX4_act_32 : decode cX4_act 32 = .ok (.iconst 0, 1) := by decide +kernel
theorem dX4_act_33 : decode cX4_act 33 = .ok (.ireturn, 1) := by decide +kernel
theorem dX4_act_34 : decode cX4_act 34 = .ok (.aload_n 0, 1) := by decide +kernel
theorem dX4_act_35 : decode cX4_act 35 = .ok (.getfield 53, 3) := by decide +kernel
theorem dX4_act_38 : decode cX4_act 38 = .ok (.iload_n 1, 1) := by decide +kernel
theorem dX4_act_39 : decode cX4_act 39 = .ok (.iaload, 1) := by decide +kernel
theorem dX4_act_40 : decode cX4_act 40 = .ok (.istore 4, 2) := by decide +kernel
theorem dX4_act_42 : decode cX4_act 42 = .ok (.aload_n 0, 1) := by decide +kernel
theorem dX4_act_43 : decode cX4_act 43 = .ok (.getfield 62, 3) := by decide +kernel
theorem dX4_act_46 : decode cX4_act 46 = .ok (.aload_n 0, 1) := by decide +kernel
theorem dX4_act_47 : decode cX4_act 47 = .ok (.getfield 12, 3) := by decide +kernel
theorem dX4_act_50 : decode cX4_act 50 = .ok (.getfield 109, 3) := by decide +kernel
theorem dX4_act_53 : decode cX4_act 53 = .ok (.iload 4, 2) := by decide +kernel
theorem dX4_act_55 : decode cX4_act 55 = .ok (.iaload, 1) := by decide +kernel
theorem dX4_act_56 : decode cX4_act 56 = .ok (.iload 4, 2) := by decide +kernel
theorem dX4_act_58 : decode cX4_act 58 = .ok (.aload_n 0, 1) := by decide +kernel
theorem dX4_act_59 : decode cX4_act 59 = .ok (.getfield 12, 3) := by decide +kernel
theorem dX4_act_62 : decode cX4_act 62 = .ok (.getfield 112, 3) := by decide +kernel
theorem dX4_act_65 : decode cX4_act 65 = .ok (.iload 4, 2) := by decide +kernel
theorem dX4_act_67 : decode cX4_act 67 = .ok (.iaload, 1) := by decide +kernel
theorem dX4_act_68 : decode cX4_act 68 = .ok (.invokevirtual 249, 3) := by decide +kernel
theorem dX4_act_71 : decode cX4_act 71 = .ok (.iload_n 2, 1) := by decide +kernel
theorem dX4_act_72 : decode cX4_act 72 = .ok (.tableswitch 67 0 2 #[28, 41, 54], 28) := by decide +kernel
theorem dX4_act_100 : decode cX4_act 100 = .ok (.aload_n 0, 1) := by decide +kernel
theorem dX4_act_101 : decode cX4_act 101 = .ok (.getfield 62, 3) := by decide +kernel
theorem dX4_act_104 : decode cX4_act 104 = .ok (.iload_n 3, 1) := by decide +kernel
theorem dX4_act_105 : decode cX4_act 105 = .ok (.invokevirtual 252, 3) := by decide +kernel
theorem dX4_act_108 : decode cX4_act 108 = .ok (.istore 5, 2) := by decide +kernel
theorem dX4_act_110 : decode cX4_act 110 = .ok (.goto 39, 3) := by decide +kernel
theorem dX4_act_113 : decode cX4_act 113 = .ok (.aload_n 0, 1) := by decide +kernel
theorem dX4_act_114 : decode cX4_act 114 = .ok (.getfield 62, 3) := by decide +kernel
theorem dX4_act_117 : decode cX4_act 117 = .ok (.iload_n 3, 1) := by decide +kernel
theorem dX4_act_118 : decode cX4_act 118 = .ok (.invokevirtual 255, 3) := by decide +kernel
theorem dX4_act_121 : decode cX4_act 121 = .ok (.istore 5, 2) := by decide +kernel
theorem dX4_act_123 : decode cX4_act 123 = .ok (.goto 26, 3) := by decide +kernel
theorem dX4_act_126 : decode cX4_act 126 = .ok (.aload_n 0, 1) := by decide +kernel
theorem dX4_act_127 : decode cX4_act 127 = .ok (.getfield 62, 3) := by decide +kernel
theorem dX4_act_130 : decode cX4_act 130 = .ok (.iload_n 3, 1) := by decide +kernel
theorem dX4_act_131 : decode cX4_act 131 = .ok (.invokevirtual 258, 3) := by decide +kernel
theorem dX4_act_134 : decode cX4_act 134 = .ok (.istore 5, 2) := by decide +kernel
theorem dX4_act_136 : decode cX4_act 136 = .ok (.goto 13, 3) := by decide +kernel
theorem dX4_act_139 : decode cX4_act 139 = .ok (.aload_n 0, 1) := by decide +kernel
theorem dX4_act_140 : decode cX4_act 140 = .ok (.getfield 62, 3) := by decide +kernel
theorem dX4_act_143 : decode cX4_act 143 = .ok (.iload_n 3, 1) := by decide +kernel
theorem dX4_act_144 : decode cX4_act 144 = .ok (.invokevirtual 261, 3) := by decide +kernel
theorem dX4_act_147 : decode cX4_act 147 = .ok (.istore 5, 2) := by decide +kernel
theorem dX4_act_149 : decode cX4_act 149 = .ok (.aload_n 0, 1) := by decide +kernel
theorem dX4_act_150 : decode cX4_act 150 = .ok (.getfield 62, 3) := by decide +kernel
theorem dX4_act_153 : decode cX4_act 153 = .ok (.getfield 264, 3) := by decide +kernel
theorem dX4_act_156 : decode cX4_act 156 = .ok (.ifCond .eq 8, 3) := by decide +kernel
theorem dX4_act_159 : decode cX4_act 159 = .ok (.bipush (-15), 2) := by decide +kernel
theorem dX4_act_161 : decode cX4_act 161 = .ok (.goto 5, 3) := by decide +kernel
theorem dX4_act_164 : decode cX4_act 164 = .ok (.iload 5, 2) := by decide +kernel
theorem dX4_act_166 : decode cX4_act 166 = .ok (.ireturn, 1) := by decide +kernel
set_option maxRecDepth 20000 in
theorem ggX4_isNameOn_X4_isName : GoodIn wsX4_isNameOn wsX4_isName := goodIn_r _ [7, 8, 9, 10, 11, 6, 12, 13, 14, 15, 16, 17, 18, 19, 20, 21, 22, 23, 24, 25, 26, 27, 28, 29, 30, 31, 32, 33, 34, 35, 36, 37, 38, 39, 40, 41, 42] (by decide +kernel) (by decide +kernel)
set_option maxRecDepth 20000 in
theorem gX4_isNameOn_X4_isName : GoodIn wsX4_isNameOn (wsV RX4 105 RX4 yX4_isName wsX4_isName) := goodIn_app (goodIn_of _ (by decide +kernel)) ggX4_isNameOn_X4_isName
theorem dX4_isNameOn_0 : decode cX4_isNameOn 0 = .ok (.aload_n 0, 1) := by decide +kernel
theorem dX4_isNameOn_1 : decode cX4_isNameOn 1 = .ok (.getfield 50, 3) := by decide +kernel
theorem dX4_isNameOn_4 : decode cX4_isNameOn 4 = .ok (.iload_n 1, 1) := by decide +kernel
theorem dX4_isNameOn_5 : decode cX4_isNameOn 5 = .ok (.iaload, 1) := by decide +kernel
theorem dX4_isNameOn_6 : decode cX4_isNameOn 6 = .ok (.iconst 1, 1) := by decide +kernel
theorem dX4_isNameOn_7 : decode cX4_isNameOn 7 = .ok (.if_icmp .ne 20, 3) := by decide +kernel
theorem dX4_isNameOn_10 : decode cX4_isNameOn 10 = .ok (.aload_n 0, 1) := by decide +kernel
theorem dX4_isNameOn_11 : decode cX4_isNameOn 11 = .ok (.aload_n 0, 1) := by decide +kernel
theorem dX4_isNameOn_12 : decode cX4_isNameOn 12 = .ok (.getfield 53, 3) := by decide +kernel
theorem dX4_isNameOn_15 : decode cX4_isNameOn 15 = .ok (.iload_n 1, 1) := by decide +kernel
theorem dX4_isNameOn_16 : decode cX4_isNameOn 16 = .ok (.iaload, 1) := by decide +kernel
theorem dX4_isNameOn_17 : decode cX4_isNameOn 17 = .ok (.invokevirtual 105, 3) := by decide +kernel
theorem dX4_isNameOn_20 : decode cX4_isNameOn 20 = .ok (.ifCond .eq 7, 3) := by decide +kernel
theorem dX4_isNameOn_23 : decode cX4_isNameOn 23 = .ok (.iconst 1, 1) := by decide +kernel
theorem dX4_isNameOn_24 : decode cX4_isNameOn 24 = .ok (.goto 4, 3) := by decide +kernel
theorem dX4_isNameOn_27 : decode cX4_isNameOn 27 = .ok (.iconst 0, 1) := by decide +kernel
theorem dX4_isNameOn_28 : decode cX4_isNameOn 28 = .ok (.ireturn, 1) := by decide +kernel
set_option maxRecDepth 20000 in
theorem ggX4_trace_X4_isBelow : GoodIn wsX4_trace wsX4_isBelow := goodIn_r _ [7] (by decide +kernel) (by decide +kernel)
set_option maxRecDepth 20000 in
theorem gX4_trace_X4_isBelow : GoodIn wsX4_trace (va_wsS RX4 91 yX4_isBelow wsX4_isBelow) := goodIn_app (goodIn_of _ (by decide +kernel)) ggX4_trace_X4_isBelow
theorem dX4_trace_0 : decode cX4_trace 0 = .ok (.iload_n 1, 1) := by decide +kernel
theorem dX4_trace_1 : decode cX4_trace 1 = .ok (.aload_n 0, 1) := by decide +kernel
theorem dX4_trace_2 : decode cX4_trace 2 = .ok (.getfield 62, 3) := by decide +kernel
theorem dX4_trace_5 : decode cX4_trace 5 = .ok (.getfield 246, 3) := by decide +kernel
theorem dX4_trace_8 : decode cX4_trace 8 = .ok (.invokestatic 91, 3) := by decide +kernel
theorem dX4_trace_11 : decode cX4_trace 11 = .ok (.ifCond .eq 15, 3) := by decide +kernel
theorem dX4_trace_14 : decode cX4_trace 14 = .ok (.aload_n 0, 1) := by decide +kernel
theorem dX4_trace_15 : decode cX4_trace 15 = .ok (.getfield 62, 3) := by decide +kernel
theorem dX4_trace_18 : decode cX4_trace 18 = .ok (.getfield 267, 3) := by decide +kernel
theorem dX4_trace_21 : decode cX4_trace 21 = .ok (.iload_n 1, 1) := by decide +kernel
theorem dX4_trace_22 : decode cX4_trace 22 = .ok (.iaload, 1) := by decide +kernel
theorem dX4_trace_23 : decode cX4_trace 23 = .ok (.goto 5, 3) := by decide +kernel
theorem dX4_trace_26 : decode cX4_trace 26 = .ok (.bipush (-3), 2) := by decide +kernel
theorem dX4_trace_28 : decode cX4_trace 28 = .ok (.ireturn, 1) := by decide +kernel
set_option maxRecDepth 20000 in
theorem ggX4_many_X2_namesOn : GoodIn wsX4_many wsX2_namesOn := goodIn_r _ [11, 12, 13, 52, 53, 54, 55, 56, 57, 58, 59, 60, 61, 62, 63, 64, 65, 66] (by decide +kernel) (by decide +kernel)
set_option maxRecDepth 20000 in
theorem gX4_many_X2_namesOn : GoodIn wsX4_many (wsV RX4 143 RX2 yX2_namesOn wsX2_namesOn) := goodIn_app (goodIn_of _ (by decide +kernel)) ggX4_many_X2_namesOn
set_option maxRecDepth 20000 in
theorem ggX4_many_J6_bitCount_0f7a4 : GoodIn wsX4_many wsJ6_bitCount_0f7a4 := goodIn_r _ [17, 18, 19, 20] (by decide +kernel) (by decide +kernel)
set_option maxRecDepth 20000 in
theorem gX4_many_J6_bitCount_0f7a4 : GoodIn wsX4_many (va_wsS RX4 188 yJ6_bitCount_0f7a4 wsJ6_bitCount_0f7a4) := goodIn_app (goodIn_of _ (by decide +kernel)) ggX4_many_J6_bitCount_0f7a4
set_option maxRecDepth 20000 in
theorem ggX4_many_X2_wallsLookedAt : GoodIn wsX4_many wsX2_wallsLookedAt := goodIn_r _ [24, 25, 26, 27, 10, 28, 12, 13, 29, 30, 52, 53, 54, 55, 56, 57, 58, 59, 60, 61, 62, 63, 64, 65, 66] (by decide +kernel) (by decide +kernel)
set_option maxRecDepth 20000 in
theorem gX4_many_X2_wallsLookedAt : GoodIn wsX4_many (wsV RX4 270 RX2 yX2_wallsLookedAt wsX2_wallsLookedAt) := goodIn_app (goodIn_of _ (by decide +kernel)) ggX4_many_X2_wallsLookedAt
set_option maxRecDepth 20000 in
theorem ggX4_many_X2_handCount : GoodIn wsX4_many wsX2_handCount := goodIn_r _ [34, 12, 35, 36, 15, 16, 17, 18, 19, 20, 52, 53, 54, 55, 56, 57, 58, 59, 60, 61, 62, 63, 64, 65, 66] (by decide +kernel) (by decide +kernel)
set_option maxRecDepth 20000 in
theorem gX4_many_X2_handCount : GoodIn wsX4_many (wsV RX4 200 RX2 yX2_handCount wsX2_handCount) := goodIn_app (goodIn_of _ (by decide +kernel)) ggX4_many_X2_handCount
theorem dX4_many_0 : decode cX4_many 0 = .ok (.iload_n 1, 1) := by decide +kernel
theorem dX4_many_1 : decode cX4_many 1 = .ok (.tableswitch 98 0 6 #[43, 51, 64, 72, 80, 85, 90], 43) := by decide +kernel
theorem dX4_many_44 : decode cX4_many 44 = .ok (.aload_n 0, 1) := by decide +kernel
theorem dX4_many_45 : decode cX4_many 45 = .ok (.getfield 12, 3) := by decide +kernel
theorem dX4_many_48 : decode cX4_many 48 = .ok (.getfield 88, 3) := by decide +kernel
theorem dX4_many_51 : decode cX4_many 51 = .ok (.ireturn, 1) := by decide +kernel
theorem dX4_many_52 : decode cX4_many 52 = .ok (.aload_n 0, 1) := by decide +kernel
theorem dX4_many_53 : decode cX4_many 53 = .ok (.getfield 12, 3) := by decide +kernel
theorem dX4_many_56 : decode cX4_many 56 = .ok (.bipush 10, 2) := by decide +kernel
theorem dX4_many_58 : decode cX4_many 58 = .ok (.invokevirtual 143, 3) := by decide +kernel
theorem dX4_many_61 : decode cX4_many 61 = .ok (.invokestatic 188, 3) := by decide +kernel
theorem dX4_many_64 : decode cX4_many 64 = .ok (.ireturn, 1) := by decide +kernel
theorem dX4_many_65 : decode cX4_many 65 = .ok (.aload_n 0, 1) := by decide +kernel
theorem dX4_many_66 : decode cX4_many 66 = .ok (.getfield 12, 3) := by decide +kernel
theorem dX4_many_69 : decode cX4_many 69 = .ok (.invokevirtual 270, 3) := by decide +kernel
theorem dX4_many_72 : decode cX4_many 72 = .ok (.ireturn, 1) := by decide +kernel
theorem dX4_many_73 : decode cX4_many 73 = .ok (.aload_n 0, 1) := by decide +kernel
theorem dX4_many_74 : decode cX4_many 74 = .ok (.getfield 12, 3) := by decide +kernel
theorem dX4_many_77 : decode cX4_many 77 = .ok (.invokevirtual 200, 3) := by decide +kernel
theorem dX4_many_80 : decode cX4_many 80 = .ok (.ireturn, 1) := by decide +kernel
theorem dX4_many_81 : decode cX4_many 81 = .ok (.aload_n 0, 1) := by decide +kernel
theorem dX4_many_82 : decode cX4_many 82 = .ok (.getfield 41, 3) := by decide +kernel
theorem dX4_many_85 : decode cX4_many 85 = .ok (.ireturn, 1) := by decide +kernel
theorem dX4_many_86 : decode cX4_many 86 = .ok (.aload_n 0, 1) := by decide +kernel
theorem dX4_many_87 : decode cX4_many 87 = .ok (.getfield 33, 3) := by decide +kernel
theorem dX4_many_90 : decode cX4_many 90 = .ok (.ireturn, 1) := by decide +kernel
theorem dX4_many_91 : decode cX4_many 91 = .ok (.aload_n 0, 1) := by decide +kernel
theorem dX4_many_92 : decode cX4_many 92 = .ok (.getfield 62, 3) := by decide +kernel
theorem dX4_many_95 : decode cX4_many 95 = .ok (.getfield 246, 3) := by decide +kernel
theorem dX4_many_98 : decode cX4_many 98 = .ok (.ireturn, 1) := by decide +kernel
theorem dX4_many_99 : decode cX4_many 99 = .ok (.iconst (-1), 1) := by decide +kernel
theorem dX4_many_100 : decode cX4_many 100 = .ok (.ireturn, 1) := by decide +kernel
set_option maxRecDepth 20000 in
theorem ggX4_keep_X2_become : GoodIn wsX4_keep wsX2_become := goodIn_r _ [8, 9, 10, 11, 12, 13, 14, 15, 16, 17, 18, 19, 20, 21, 22, 23, 24, 25, 26, 42, 43, 44, 45, 46, 47, 48, 49, 50, 51, 52, 53, 54, 55, 56] (by decide +kernel) (by decide +kernel)
set_option maxRecDepth 20000 in
theorem gX4_keep_X2_become : GoodIn wsX4_keep (wsV RX4 84 RX2 yX2_become wsX2_become) := goodIn_app (goodIn_of _ (by decide +kernel)) ggX4_keep_X2_become
theorem dX4_keep_0 : decode cX4_keep 0 = .ok (.aload_n 0, 1) := by decide +kernel
theorem dX4_keep_1 : decode cX4_keep 1 = .ok (.getfield 22, 3) := by decide +kernel
theorem dX4_keep_4 : decode cX4_keep 4 = .ok (.aload_n 0, 1) := by decide +kernel
theorem dX4_keep_5 : decode cX4_keep 5 = .ok (.getfield 12, 3) := by decide +kernel
theorem dX4_keep_8 : decode cX4_keep 8 = .ok (.invokevirtual 84, 3) := by decide +kernel
theorem dX4_keep_11 : decode cX4_keep 11 = .ok (.aload_n 0, 1) := by decide +kernel
theorem dX4_keep_12 : decode cX4_keep 12 = .ok (.iconst 1, 1) := by decide +kernel
theorem dX4_keep_13 : decode cX4_keep 13 = .ok (.putfield 25, 3) := by decide +kernel
theorem dX4_keep_16 : decode cX4_keep 16 = .ok (.iconst 1, 1) := by decide +kernel
theorem dX4_keep_17 : decode cX4_keep 17 = .ok (.ireturn, 1) := by decide +kernel
set_option maxRecDepth 20000 in
theorem ggX4_again_X2_become : GoodIn wsX4_again wsX2_become := goodIn_r _ [9, 10, 11, 12, 13, 14, 15, 16, 17, 18, 19, 20, 21, 22, 23, 24, 25, 26, 27, 43, 44, 45, 46, 47, 48, 49, 50, 51, 52, 53, 54, 55, 56, 57] (by decide +kernel) (by decide +kernel)
set_option maxRecDepth 20000 in
theorem gX4_again_X2_become : GoodIn wsX4_again (wsV RX4 84 RX2 yX2_become wsX2_become) := goodIn_app (goodIn_of _ (by decide +kernel)) ggX4_again_X2_become
theorem dX4_again_0 : decode cX4_again 0 = .ok (.aload_n 0, 1) := by decide +kernel
theorem dX4_again_1 : decode cX4_again 1 = .ok (.getfield 25, 3) := by decide +kernel
theorem dX4_again_4 : decode cX4_again 4 = .ok (.ifCond .ne 6, 3) := by decide +kernel
theorem dX4_again_7 : decode cX4_again 7 = .ok (.bipush (-3), 2) := by decide +kernel
theorem dX4_again_9 : decode cX4_again 9 = .ok (.ireturn, 1) := by decide +kernel
theorem dX4_again_10 : decode cX4_again 10 = .ok (.aload_n 0, 1) := by decide +kernel
theorem dX4_again_11 : decode cX4_again 11 = .ok (.getfield 12, 3) := by decide +kernel
theorem dX4_again_14 : decode cX4_again 14 = .ok (.aload_n 0, 1) := by decide +kernel
theorem dX4_again_15 : decode cX4_again 15 = .ok (.getfield 22, 3) := by decide +kernel
theorem dX4_again_18 : decode cX4_again 18 = .ok (.invokevirtual 84, 3) := by decide +kernel
theorem dX4_again_21 : decode cX4_again 21 = .ok (.aload_n 0, 1) := by decide +kernel
theorem dX4_again_22 : decode cX4_again 22 = .ok (.getfield 12, 3) := by decide +kernel
theorem dX4_again_25 : decode cX4_again 25 = .ok (.getfield 88, 3) := by decide +kernel
theorem dX4_again_28 : decode cX4_again 28 = .ok (.ireturn, 1) := by decide +kernel
set_option maxRecDepth 20000 in
theorem ggX4_isName_X4_isBelow : GoodIn wsX4_isName wsX4_isBelow := goodIn_r _ [6] (by decide +kernel) (by decide +kernel)
set_option maxRecDepth 20000 in
theorem gX4_isName_X4_isBelow : GoodIn wsX4_isName (va_wsS RX4 91 yX4_isBelow wsX4_isBelow) := goodIn_app (goodIn_of _ (by decide +kernel)) ggX4_isName_X4_isBelow
theorem dX4_isName_0 : decode cX4_isName 0 = .ok (.iload_n 1, 1) := by decide +kernel
theorem dX4_isName_1 : decode cX4_isName 1 = .ok (.aload_n 0, 1) := by decide +kernel
theorem dX4_isName_2 : decode cX4_isName 2 = .ok (.getfield 12, 3) := by decide +kernel
theorem dX4_isName_5 : decode cX4_isName 5 = .ok (.getfield 88, 3) := by decide +kernel
theorem dX4_isName_8 : decode cX4_isName 8 = .ok (.invokestatic 91, 3) := by decide +kernel
theorem dX4_isName_11 : decode cX4_isName 11 = .ok (.ireturn, 1) := by decide +kernel
theorem dX4_isBelow_0 : decode cX4_isBelow 0 = .ok (.iload_n 0, 1) := by decide +kernel
theorem dX4_isBelow_1 : decode cX4_isBelow 1 = .ok (.ifCond .lt 12, 3) := by decide +kernel
theorem dX4_isBelow_4 : decode cX4_isBelow 4 = .ok (.iload_n 0, 1) := by decide +kernel
theorem dX4_isBelow_5 : decode cX4_isBelow 5 = .ok (.iload_n 1, 1) := by decide +kernel
theorem dX4_isBelow_6 : decode cX4_isBelow 6 = .ok (.if_icmp .ge 7, 3) := by decide +kernel
theorem dX4_isBelow_9 : decode cX4_isBelow 9 = .ok (.iconst 1, 1) := by decide +kernel
theorem dX4_isBelow_10 : decode cX4_isBelow 10 = .ok (.goto 4, 3) := by decide +kernel
theorem dX4_isBelow_13 : decode cX4_isBelow 13 = .ok (.iconst 0, 1) := by decide +kernel
theorem dX4_isBelow_14 : decode cX4_isBelow 14 = .ok (.ireturn, 1) := by decide +kernel
set_option maxRecDepth 20000 in
theorem ggX4_isUnder_X4_isBelow : GoodIn wsX4_isUnder wsX4_isBelow := goodIn_r _ [5] (by decide +kernel) (by decide +kernel)
set_option maxRecDepth 20000 in
theorem gX4_isUnder_X4_isBelow : GoodIn wsX4_isUnder (va_wsS RX4 91 yX4_isBelow wsX4_isBelow) := goodIn_app (goodIn_of _ (by decide +kernel)) ggX4_isUnder_X4_isBelow
theorem dX4_isUnder_0 : decode cX4_isUnder 0 = .ok (.iload_n 0, 1) := by decide +kernel
theorem dX4_isUnder_1 : decode cX4_isUnder 1 = .ok (.istore_n 2, 1) := by decide +kernel
theorem dX4_isUnder_2 : decode cX4_isUnder 2 = .ok (.iconst 0, 1) := by decide +kernel
theorem dX4_isUnder_3 : decode cX4_isUnder 3 = .ok (.istore_n 3, 1) := by decide +kernel
theorem dX4_isUnder_4 : decode cX4_isUnder 4 = .ok (.iload_n 3, 1) := by decide +kernel
theorem dX4_isUnder_5 : decode cX4_isUnder 5 = .ok (.bipush 6, 2) := by decide +kernel
theorem dX4_isUnder_7 : decode cX4_isUnder 7 = .ok (.if_icmp .ge 31, 3) := by decide +kernel
theorem dX4_isUnder_10 : decode cX4_isUnder 10 = .ok (.iload_n 2, 1) := by decide +kernel
theorem dX4_isUnder_11 : decode cX4_isUnder 11 = .ok (.bipush 6, 2) := by decide +kernel
theorem dX4_isUnder_13 : decode cX4_isUnder 13 = .ok (.invokestatic 91, 3) := by decide +kernel
theorem dX4_isUnder_16 : decode cX4_isUnder 16 = .ok (.ifCond .eq 22, 3) := by decide +kernel
theorem dX4_isUnder_19 : decode cX4_isUnder 19 = .ok (.iload_n 2, 1) := by decide +kernel
theorem dX4_isUnder_20 : decode cX4_isUnder 20 = .ok (.iload_n 1, 1) := by decide +kernel
theorem dX4_isUnder_21 : decode cX4_isUnder 21 = .ok (.if_icmp .ne 5, 3) := by decide +kernel
theorem dX4_isUnder_24 : decode cX4_isUnder 24 = .ok (.iconst 1, 1) := by decide +kernel
theorem dX4_isUnder_25 : decode cX4_isUnder 25 = .ok (.ireturn, 1) := by decide +kernel
theorem dX4_isUnder_26 : decode cX4_isUnder 26 = .ok (.getstatic 273, 3) := by decide +kernel
theorem dX4_isUnder_29 : decode cX4_isUnder 29 = .ok (.iload_n 2, 1) := by decide +kernel
theorem dX4_isUnder_30 : decode cX4_isUnder 30 = .ok (.iaload, 1) := by decide +kernel
theorem dX4_isUnder_31 : decode cX4_isUnder 31 = .ok (.istore_n 2, 1) := by decide +kernel
theorem dX4_isUnder_32 : decode cX4_isUnder 32 = .ok (.iinc 3 1, 3) := by decide +kernel
theorem dX4_isUnder_35 : decode cX4_isUnder 35 = .ok (.goto (-31), 3) := by decide +kernel
theorem dX4_isUnder_38 : decode cX4_isUnder 38 = .ok (.iconst 0, 1) := by decide +kernel
theorem dX4_isUnder_39 : decode cX4_isUnder 39 = .ok (.ireturn, 1) := by decide +kernel
theorem dX4_heldSize_0 : decode cX4_heldSize 0 = .ok (.iconst 0, 1) := by decide +kernel
theorem dX4_heldSize_1 : decode cX4_heldSize 1 = .ok (.bipush 99, 2) := by decide +kernel
theorem dX4_heldSize_3 : decode cX4_heldSize 3 = .ok (.iload_n 0, 1) := by decide +kernel
theorem dX4_heldSize_4 : decode cX4_heldSize 4 = .ok (.invokestatic 276, 3) := by decide +kernel
theorem dX4_heldSize_7 : decode cX4_heldSize 7 = .ok (.invokestatic 281, 3) := by decide +kernel
theorem dX4_heldSize_10 : decode cX4_heldSize 10 = .ok (.ireturn, 1) := by decide +kernel
theorem dX4_narrowed_0 : decode cX4_narrowed 0 = .ok (.iload_n 0, 1) := by decide +kernel
theorem dX4_narrowed_1 : decode cX4_narrowed 1 = .ok (.ifCond .ne 6, 3) := by decide +kernel
theorem dX4_narrowed_4 : decode cX4_narrowed 4 = .ok (.iload_n 1, 1) := by decide +kernel
theorem dX4_narrowed_5 : decode cX4_narrowed 5 = .ok (.i2b, 1) := by decide +kernel
theorem dX4_narrowed_6 : decode cX4_narrowed 6 = .ok (.ireturn, 1) := by decide +kernel
theorem dX4_narrowed_7 : decode cX4_narrowed 7 = .ok (.iload_n 0, 1) := by decide +kernel
theorem dX4_narrowed_8 : decode cX4_narrowed 8 = .ok (.iconst 1, 1) := by decide +kernel
theorem dX4_narrowed_9 : decode cX4_narrowed 9 = .ok (.if_icmp .ne 8, 3) := by decide +kernel
theorem dX4_narrowed_12 : decode cX4_narrowed 12 = .ok (.iload_n 1, 1) := by decide +kernel
theorem dX4_narrowed_13 : decode cX4_narrowed 13 = .ok (.i2s, 1) := by decide +kernel
theorem dX4_narrowed_14 : decode cX4_narrowed 14 = .ok (.goto 4, 3) := by decide +kernel
theorem dX4_narrowed_17 : decode cX4_narrowed 17 = .ok (.iload_n 1, 1) := by decide +kernel
theorem dX4_narrowed_18 : decode cX4_narrowed 18 = .ok (.ireturn, 1) := by decide +kernel
set_option maxRecDepth 20000 in
theorem ggX5_init_X5_begins : GoodIn wsX5_init wsX5_begins := goodIn_r _ [24] (by decide +kernel) (by decide +kernel)
set_option maxRecDepth 20000 in
theorem gX5_init_X5_begins : GoodIn wsX5_init (va_wsS RX5 56 yX5_begins wsX5_begins) := goodIn_app (goodIn_of _ (by decide +kernel)) ggX5_init_X5_begins
theorem dX5_init_0 : decode cX5_init 0 = .ok (.aload_n 0, 1) := by decide +kernel
theorem dX5_init_1 : decode cX5_init 1 = .ok (.invokespecial 1, 3) := by decide +kernel
theorem dX5_init_4 : decode cX5_init 4 = .ok (.aload_n 0, 1) := by decide +kernel
theorem dX5_init_5 : decode cX5_init 5 = .ok (.bipush 68, 2) := by decide +kernel
theorem dX5_init_7 : decode cX5_init 7 = .ok (.newarray .int, 2) := by decide +kernel
theorem dX5_init_9 : decode cX5_init 9 = .ok (.putfield 7, 3) := by decide +kernel
theorem dX5_init_12 : decode cX5_init 12 = .ok (.aload_n 0, 1) := by decide +kernel
theorem dX5_init_13 : decode cX5_init 13 = .ok (.bipush 68, 2) := by decide +kernel
theorem dX5_init_15 : decode cX5_init 15 = .ok (.newarray .int, 2) := by decide +kernel
theorem dX5_init_17 : decode cX5_init 17 = .ok (.putfield 13, 3) := by decide +kernel
theorem dX5_init_20 : decode cX5_init 20 = .ok (.aload_n 0, 1) := by decide +kernel
theorem dX5_init_21 : decode cX5_init 21 = .ok (.bipush 68, 2) := by decide +kernel
theorem dX5_init_23 : decode cX5_init 23 = .ok (.newarray .int, 2) := by decide +kernel
theorem dX5_init_25 : decode cX5_init 25 = .ok (.putfield 16, 3) := by decide +kernel
theorem dX5_init_28 : decode cX5_init 28 = .ok (.aload_n 0, 1) := by decide +kernel
theorem dX5_init_29 : decode cX5_init 29 = .ok (.bipush 68, 2) := by decide +kernel
theorem dX5_init_31 : decode cX5_init 31 = .ok (.newarray .int, 2) := by decide +kernel
theorem dX5_init_33 : decode cX5_init 33 = .ok (.putfield 19, 3) := by decide +kernel
theorem dX5_init_36 : decode cX5_init 36 = .ok (.aload_n 0, 1) := by decide +kernel
theorem dX5_init_37 : decode cX5_init 37 = .ok (.sipush 200, 3) := by decide +kernel
theorem dX5_init_40 : decode cX5_init 40 = .ok (.newarray .int, 2) := by decide +kernel
theorem dX5_init_42 : decode cX5_init 42 = .ok (.putfield 22, 3) := by decide +kernel
theorem dX5_init_45 : decode cX5_init 45 = .ok (.aload_n 0, 1) := by decide +kernel
theorem dX5_init_46 : decode cX5_init 46 = .ok (.bipush 8, 2) := by decide +kernel
theorem dX5_init_48 : decode cX5_init 48 = .ok (.newarray .int, 2) := by decide +kernel
theorem dX5_init_50 : decode cX5_init 50 = .ok (.putfield 25, 3) := by decide +kernel
theorem dX5_init_53 : decode cX5_init 53 = .ok (.aload_n 0, 1) := by decide +kernel
theorem dX5_init_54 : decode cX5_init 54 = .ok (.bipush 30, 2) := by decide +kernel
theorem dX5_init_56 : decode cX5_init 56 = .ok (.newarray .int, 2) := by decide +kernel
theorem dX5_init_58 : decode cX5_init 58 = .ok (.putfield 28, 3) := by decide +kernel
theorem dX5_init_61 : decode cX5_init 61 = .ok (.aload_n 0, 1) := by decide +kernel
theorem dX5_init_62 : decode cX5_init 62 = .ok (.bipush 30, 2) := by decide +kernel
theorem dX5_init_64 : decode cX5_init 64 = .ok (.newarray .int, 2) := by decide +kernel
theorem dX5_init_66 : decode cX5_init 66 = .ok (.putfield 31, 3) := by decide +kernel
theorem dX5_init_69 : decode cX5_init 69 = .ok (.aload_n 0, 1) := by decide +kernel
theorem dX5_init_70 : decode cX5_init 70 = .ok (.iconst 4, 1) := by decide +kernel
theorem dX5_init_71 : decode cX5_init 71 = .ok (.newarray .int, 2) := by decide +kernel
theorem dX5_init_73 : decode cX5_init 73 = .ok (.dup, 1) := by decide +kernel
theorem dX5_init_74 : decode cX5_init 74 = .ok (.iconst 0, 1) := by decide +kernel
theorem dX5_init_75 : decode cX5_init 75 = .ok (.iconst (-1), 1) := by decide +kernel
theorem dX5_init_76 : decode cX5_init 76 = .ok (.iastore, 1) := by decide +kernel
theorem dX5_init_77 : decode cX5_init 77 = .ok (.dup, 1) := by decide +kernel
theorem dX5_init_78 : decode cX5_init 78 = .ok (.iconst 1, 1) := by decide +kernel
theorem dX5_init_79 : decode cX5_init 79 = .ok (.iconst (-1), 1) := by decide +kernel
theorem dX5_init_80 : decode cX5_init 80 = .ok (.iastore, 1) := by decide +kernel
theorem dX5_init_81 : decode cX5_init 81 = .ok (.dup, 1) := by decide +kernel
theorem dX5_init_82 : decode cX5_init 82 = .ok (.iconst 2, 1) := by decide +kernel
theorem dX5_init_83 : decode cX5_init 83 = .ok (.iconst (-1), 1) := by decide +kernel
theorem dX5_init_84 : decode cX5_init 84 = .ok (.iastore, 1) := by decide +kernel
theorem dX5_init_85 : decode cX5_init 85 = .ok (.dup, 1) := by decide +kernel
theorem dX5_init_86 : decode cX5_init 86 = .ok (.iconst 3, 1) := by decide +kernel
theorem dX5_init_87 : decode cX5_init 87 = .ok (.iconst (-1), 1) := by decide +kernel
theorem dX5_init_88 : decode cX5_init 88 = .ok (.iastore, 1) := by decide +kernel
theorem dX5_init_89 : decode cX5_init 89 = .ok (.putfield 34, 3) := by decide +kernel
theorem dX5_init_92 : decode cX5_init 92 = .ok (.aload_n 0, 1) := by decide +kernel
theorem dX5_init_93 : decode cX5_init 93 = .ok (.iconst 4, 1) := by decide +kernel
theorem dX5_init_94 : decode cX5_init 94 = .ok (.newarray .int, 2) := by decide +kernel
theorem dX5_init_96 : decode cX5_init 96 = .ok (.putfield 37, 3) := by decide +kernel
theorem dX5_init_99 : decode cX5_init 99 = .ok (.aload_n 0, 1) := by decide +kernel
theorem dX5_init_100 : decode cX5_init 100 = .ok (.sipush 160, 3) := by decide +kernel
theorem dX5_init_103 : decode cX5_init 103 = .ok (.newarray .long, 2) := by decide +kernel
theorem dX5_init_105 : decode cX5_init 105 = .ok (.putfield 40, 3) := by decide +kernel
theorem dX5_init_108 : decode cX5_init 108 = .ok (.aload_n 0, 1) := by decide +kernel
theorem dX5_init_109 : decode cX5_init 109 = .ok (.iconst 4, 1) := by decide +kernel
theorem dX5_init_110 : decode cX5_init 110 = .ok (.newarray .int, 2) := by decide +kernel
theorem dX5_init_112 : decode cX5_init 112 = .ok (.dup, 1) := by decide +kernel
theorem dX5_init_113 : decode cX5_init 113 = .ok (.iconst 0, 1) := by decide +kernel
theorem dX5_init_114 : decode cX5_init 114 = .ok (.iconst (-1), 1) := by decide +kernel
theorem dX5_init_115 : decode cX5_init 115 = .ok (.iastore, 1) := by decide +kernel
theorem dX5_init_116 : decode cX5_init 116 = .ok (.dup, 1) := by decide +kernel
theorem dX5_init_117 : decode cX5_init 117 = .ok (.iconst 1, 1) := by decide +kernel
theorem dX5_init_118 : decode cX5_init 118 = .ok (.iconst (-1), 1) := by decide +kernel
theorem dX5_init_119 : decode cX5_init 119 = .ok (.iastore, 1) := by decide +kernel
theorem dX5_init_120 : decode cX5_init 120 = .ok (.dup, 1) := by decide +kernel
theorem dX5_init_121 : decode cX5_init 121 = .ok (.iconst 2, 1) := by decide +kernel
theorem dX5_init_122 : decode cX5_init 122 = .ok (.iconst (-1), 1) := by decide +kernel
theorem dX5_init_123 : decode cX5_init 123 = .ok (.iastore, 1) := by decide +kernel
theorem dX5_init_124 : decode cX5_init 124 = .ok (.dup, 1) := by decide +kernel
theorem dX5_init_125 : decode cX5_init 125 = .ok (.iconst 3, 1) := by decide +kernel
theorem dX5_init_126 : decode cX5_init 126 = .ok (.iconst (-1), 1) := by decide +kernel
theorem dX5_init_127 : decode cX5_init 127 = .ok (.iastore, 1) := by decide +kernel
theorem dX5_init_128 : decode cX5_init 128 = .ok (.putfield 44, 3) := by decide +kernel
theorem dX5_init_131 : decode cX5_init 131 = .ok (.aload_n 0, 1) := by decide +kernel
theorem dX5_init_132 : decode cX5_init 132 = .ok (.iconst 4, 1) := by decide +kernel
theorem dX5_init_133 : decode cX5_init 133 = .ok (.newarray .int, 2) := by decide +kernel
theorem dX5_init_135 : decode cX5_init 135 = .ok (.putfield 47, 3) := by decide +kernel
theorem dX5_init_138 : decode cX5_init 138 = .ok (.aload_n 0, 1) := by decide +kernel
theorem dX5_init_139 : decode cX5_init 139 = .ok (.iconst 4, 1) := by decide +kernel
theorem dX5_init_140 : decode cX5_init 140 = .ok (.newarray .int, 2) := by decide +kernel
theorem dX5_init_142 : decode cX5_init 142 = .ok (.putfield 50, 3) := by decide +kernel
theorem dX5_init_145 : decode cX5_init 145 = .ok (.aload_n 0, 1) := by decide +kernel
theorem dX5_init_146 : decode cX5_init 146 = .ok (.bipush 30, 2) := by decide +kernel
theorem dX5_init_148 : decode cX5_init 148 = .ok (.newarray .int, 2) := by decide +kernel
theorem dX5_init_150 : decode cX5_init 150 = .ok (.putfield 53, 3) := by decide +kernel
theorem dX5_init_153 : decode cX5_init 153 = .ok (.aload_n 0, 1) := by decide +kernel
theorem dX5_init_154 : decode cX5_init 154 = .ok (.getfield 7, 3) := by decide +kernel
theorem dX5_init_157 : decode cX5_init 157 = .ok (.invokestatic 56, 3) := by decide +kernel
theorem dX5_init_160 : decode cX5_init 160 = .ok (.aload_n 0, 1) := by decide +kernel
theorem dX5_init_161 : decode cX5_init 161 = .ok (.getfield 7, 3) := by decide +kernel
theorem dX5_init_164 : decode cX5_init 164 = .ok (.bipush 7, 2) := by decide +kernel
theorem dX5_init_166 : decode cX5_init 166 = .ok (.iconst 1, 1) := by decide +kernel
theorem dX5_init_167 : decode cX5_init 167 = .ok (.iastore, 1) := by decide +kernel
theorem dX5_init_168 : decode cX5_init 168 = .ok (.return_, 1) := by decide +kernel
theorem dX5_begins_0 : decode cX5_begins 0 = .ok (.iconst 0, 1) := by decide +kernel
theorem dX5_begins_1 : decode cX5_begins 1 = .ok (.istore_n 1, 1) := by decide +kernel
theorem dX5_begins_2 : decode cX5_begins 2 = .ok (.iload_n 1, 1) := by decide +kernel
theorem dX5_begins_3 : decode cX5_begins 3 = .ok (.bipush 68, 2) := by decide +kernel
theorem dX5_begins_5 : decode cX5_begins 5 = .ok (.if_icmp .ge 13, 3) := by decide +kernel
theorem dX5_begins_8 : decode cX5_begins 8 = .ok (.aload_n 0, 1) := by decide +kernel
theorem dX5_begins_9 : decode cX5_begins 9 = .ok (.iload_n 1, 1) := by decide +kernel
theorem dX5_begins_10 : decode cX5_begins 10 = .ok (.iconst 0, 1) := by decide +kernel
theorem dX5_begins_11 : decode cX5_begins 11 = .ok (.iastore, 1) := by decide +kernel
theorem dX5_begins_12 : decode cX5_begins 12 = .ok (.iinc 1 1, 3) := by decide +kernel
theorem dX5_begins_15 : decode cX5_begins 15 = .ok (.goto (-13), 3) := by decide +kernel
theorem dX5_begins_18 : decode cX5_begins 18 = .ok (.aload_n 0, 1) := by decide +kernel
theorem dX5_begins_19 : decode cX5_begins 19 = .ok (.iconst 0, 1) := by decide +kernel
theorem dX5_begins_20 : decode cX5_begins 20 = .ok (.iconst 1, 1) := by decide +kernel
theorem dX5_begins_21 : decode cX5_begins 21 = .ok (.iastore, 1) := by decide +kernel
theorem dX5_begins_22 : decode cX5_begins 22 = .ok (.aload_n 0, 1) := by decide +kernel
theorem dX5_begins_23 : decode cX5_begins 23 = .ok (.iconst 1, 1) := by decide +kernel
theorem dX5_begins_24 : decode cX5_begins 24 = .ok (.iconst 2, 1) := by decide +kernel
theorem dX5_begins_25 : decode cX5_begins 25 = .ok (.iastore, 1) := by decide +kernel
theorem dX5_begins_26 : decode cX5_begins 26 = .ok (.aload_n 0, 1) := by decide +kernel
theorem dX5_begins_27 : decode cX5_begins 27 = .ok (.iconst 2, 1) := by decide +kernel
theorem dX5_begins_28 : decode cX5_begins 28 = .ok (.bipush 30, 2) := by decide +kernel
theorem dX5_begins_30 : decode cX5_begins 30 = .ok (.iastore, 1) := by decide +kernel
theorem dX5_begins_31 : decode cX5_begins 31 = .ok (.aload_n 0, 1) := by decide +kernel
theorem dX5_begins_32 : decode cX5_begins 32 = .ok (.iconst 3, 1) := by decide +kernel
theorem dX5_begins_33 : decode cX5_begins 33 = .ok (.bipush 20, 2) := by decide +kernel
theorem dX5_begins_35 : decode cX5_begins 35 = .ok (.iastore, 1) := by decide +kernel
theorem dX5_begins_36 : decode cX5_begins 36 = .ok (.iconst 0, 1) := by decide +kernel
theorem dX5_begins_37 : decode cX5_begins 37 = .ok (.istore_n 1, 1) := by decide +kernel
theorem dX5_begins_38 : decode cX5_begins 38 = .ok (.iload_n 1, 1) := by decide +kernel
theorem dX5_begins_39 : decode cX5_begins 39 = .ok (.bipush 10, 2) := by decide +kernel
theorem dX5_begins_41 : decode cX5_begins 41 = .ok (.if_icmp .ge 20, 3) := by decide +kernel
theorem dX5_begins_44 : decode cX5_begins 44 = .ok (.aload_n 0, 1) := by decide +kernel
theorem dX5_begins_45 : decode cX5_begins 45 = .ok (.bipush 8, 2) := by decide +kernel
theorem dX5_begins_47 : decode cX5_begins 47 = .ok (.iconst 2, 1) := by decide +kernel
theorem dX5_begins_48 : decode cX5_begins 48 = .ok (.iload_n 1, 1) := by decide +kernel
theorem dX5_begins_49 : decode cX5_begins 49 = .ok (.imul, 1) := by decide +kernel
theorem dX5_begins_50 : decode cX5_begins 50 = .ok (.iadd, 1) := by decide +kernel
theorem dX5_begins_51 : decode cX5_begins 51 = .ok (.iconst 1, 1) := by decide +kernel
theorem dX5_begins_52 : decode cX5_begins 52 = .ok (.iadd, 1) := by decide +kernel
theorem dX5_begins_53 : decode cX5_begins 53 = .ok (.iconst 3, 1) := by decide +kernel
theorem dX5_begins_54 : decode cX5_begins 54 = .ok (.iastore, 1) := by decide +kernel
theorem dX5_begins_55 : decode cX5_begins 55 = .ok (.iinc 1 1, 3) := by decide +kernel
theorem dX5_begins_58 : decode cX5_begins 58 = .ok (.goto (-20), 3) := by decide +kernel
theorem dX5_begins_61 : decode cX5_begins 61 = .ok (.return_, 1) := by decide +kernel
theorem dX5_in_0 : decode cX5_in 0 = .ok (.iload_n 0, 1) := by decide +kernel
theorem dX5_in_1 : decode cX5_in 1 = .ok (.iload_n 1, 1) := by decide +kernel
theorem dX5_in_2 : decode cX5_in 2 = .ok (.if_icmp .lt 12, 3) := by decide +kernel
theorem dX5_in_5 : decode cX5_in 5 = .ok (.iload_n 0, 1) := by decide +kernel
theorem dX5_in_6 : decode cX5_in 6 = .ok (.iload_n 2, 1) := by decide +kernel
theorem dX5_in_7 : decode cX5_in 7 = .ok (.if_icmp .gt 7, 3) := by decide +kernel
theorem dX5_in_10 : decode cX5_in 10 = .ok (.iconst 1, 1) := by decide +kernel
theorem dX5_in_11 : decode cX5_in 11 = .ok (.goto 4, 3) := by decide +kernel
theorem dX5_in_14 : decode cX5_in 14 = .ok (.iconst 0, 1) := by decide +kernel
theorem dX5_in_15 : decode cX5_in 15 = .ok (.ireturn, 1) := by decide +kernel
theorem dX5_held_0 : decode cX5_held 0 = .ok (.iload_n 0, 1) := by decide +kernel
theorem dX5_held_1 : decode cX5_held 1 = .ok (.iload_n 1, 1) := by decide +kernel
theorem dX5_held_2 : decode cX5_held 2 = .ok (.if_icmp .ge 7, 3) := by decide +kernel
theorem dX5_held_5 : decode cX5_held 5 = .ok (.iload_n 1, 1) := by decide +kernel
theorem dX5_held_6 : decode cX5_held 6 = .ok (.goto 13, 3) := by decide +kernel
theorem dX5_held_9 : decode cX5_held 9 = .ok (.iload_n 0, 1) := by decide +kernel
theorem dX5_held_10 : decode cX5_held 10 = .ok (.iload_n 2, 1) := by decide +kernel
theorem dX5_held_11 : decode cX5_held 11 = .ok (.if_icmp .le 7, 3) := by decide +kernel
theorem dX5_held_14 : decode cX5_held 14 = .ok (.iload_n 2, 1) := by decide +kernel
theorem dX5_held_15 : decode cX5_held 15 = .ok (.goto 4, 3) := by decide +kernel
theorem dX5_held_18 : decode cX5_held 18 = .ok (.iload_n 0, 1) := by decide +kernel
theorem dX5_held_19 : decode cX5_held 19 = .ok (.ireturn, 1) := by decide +kernel
theorem dX5_moveAll_0 : decode cX5_moveAll 0 = .ok (.iconst 0, 1) := by decide +kernel
theorem dX5_moveAll_1 : decode cX5_moveAll 1 = .ok (.istore_n 2, 1) := by decide +kernel
theorem dX5_moveAll_2 : decode cX5_moveAll 2 = .ok (.iload_n 2, 1) := by decide +kernel
theorem dX5_moveAll_3 : decode cX5_moveAll 3 = .ok (.bipush 68, 2) := by decide +kernel
theorem dX5_moveAll_5 : decode cX5_moveAll 5 = .ok (.if_icmp .ge 15, 3) := by decide +kernel
theorem dX5_moveAll_8 : decode cX5_moveAll 8 = .ok (.aload_n 1, 1) := by decide +kernel
theorem dX5_moveAll_9 : decode cX5_moveAll 9 = .ok (.iload_n 2, 1) := by decide +kernel
theorem dX5_moveAll_10 : decode cX5_moveAll 10 = .ok (.aload_n 0, 1) := by decide +kernel
theorem dX5_moveAll_11 : decode cX5_moveAll 11 = .ok (.iload_n 2, 1) := by decide +kernel
theorem dX5_moveAll_12 : decode cX5_moveAll 12 = .ok (.iaload, 1) := by decide +kernel
theorem dX5_moveAll_13 : decode cX5_moveAll 13 = .ok (.iastore, 1) := by decide +kernel
theorem dX5_moveAll_14 : decode cX5_moveAll 14 = .ok (.iinc 2 1, 3) := by decide +kernel
theorem dX5_moveAll_17 : decode cX5_moveAll 17 = .ok (.goto (-15), 3) := by decide +kernel
theorem dX5_moveAll_20 : decode cX5_moveAll 20 = .ok (.return_, 1) := by decide +kernel
set_option maxRecDepth 20000 in
theorem ggX5_isOne_X5_in : GoodIn wsX5_isOne wsX5_in := goodIn_r _ [5] (by decide +kernel) (by decide +kernel)
set_option maxRecDepth 20000 in
theorem gX5_isOne_X5_in : GoodIn wsX5_isOne (va_wsS RX5 60 yX5_in wsX5_in) := goodIn_app (goodIn_of _ (by decide +kernel)) ggX5_isOne_X5_in
theorem dX5_isOne_0 : decode cX5_isOne 0 = .ok (.iload_n 1, 1) := by decide +kernel
theorem dX5_isOne_1 : decode cX5_isOne 1 = .ok (.iconst 0, 1) := by decide +kernel
theorem dX5_isOne_2 : decode cX5_isOne 2 = .ok (.aload_n 0, 1) := by decide +kernel
theorem dX5_isOne_3 : decode cX5_isOne 3 = .ok (.getfield 7, 3) := by decide +kernel
theorem dX5_isOne_6 : decode cX5_isOne 6 = .ok (.bipush 6, 2) := by decide +kernel
theorem dX5_isOne_8 : decode cX5_isOne 8 = .ok (.iaload, 1) := by decide +kernel
theorem dX5_isOne_9 : decode cX5_isOne 9 = .ok (.iconst 1, 1) := by decide +kernel
theorem dX5_isOne_10 : decode cX5_isOne 10 = .ok (.isub, 1) := by decide +kernel
theorem dX5_isOne_11 : decode cX5_isOne 11 = .ok (.invokestatic 60, 3) := by decide +kernel
theorem dX5_isOne_14 : decode cX5_isOne 14 = .ok (.ireturn, 1) := by decide +kernel
theorem dX5_its_0 : decode cX5_its 0 = .ok (.aload_n 0, 1) := by decide +kernel
theorem dX5_its_1 : decode cX5_its 1 = .ok (.getfield 7, 3) := by decide +kernel
theorem dX5_its_4 : decode cX5_its 4 = .ok (.bipush 28, 2) := by decide +kernel
theorem dX5_its_6 : decode cX5_its 6 = .ok (.iconst 5, 1) := by decide +kernel
theorem dX5_its_7 : decode cX5_its 7 = .ok (.iload_n 1, 1) := by decide +kernel
theorem dX5_its_8 : decode cX5_its 8 = .ok (.imul, 1) := by decide +kernel
theorem dX5_its_9 : decode cX5_its 9 = .ok (.iadd, 1) := by decide +kernel
theorem dX5_its_10 : decode cX5_its 10 = .ok (.iload_n 2, 1) := by decide +kernel
theorem dX5_its_11 : decode cX5_its 11 = .ok (.iadd, 1) := by decide +kernel
theorem dX5_its_12 : decode cX5_its 12 = .ok (.iaload, 1) := by decide +kernel
theorem dX5_its_13 : decode cX5_its 13 = .ok (.ireturn, 1) := by decide +kernel
theorem dX5_sets_0 : decode cX5_sets 0 = .ok (.aload_n 0, 1) := by decide +kernel
theorem dX5_sets_1 : decode cX5_sets 1 = .ok (.getfield 7, 3) := by decide +kernel
theorem dX5_sets_4 : decode cX5_sets 4 = .ok (.bipush 28, 2) := by decide +kernel
theorem dX5_sets_6 : decode cX5_sets 6 = .ok (.iconst 5, 1) := by decide +kernel
theorem dX5_sets_7 : decode cX5_sets 7 = .ok (.iload_n 1, 1) := by decide +kernel
theorem dX5_sets_8 : decode cX5_sets 8 = .ok (.imul, 1) := by decide +kernel
theorem dX5_sets_9 : decode cX5_sets 9 = .ok (.iadd, 1) := by decide +kernel
theorem dX5_sets_10 : decode cX5_sets 10 = .ok (.iload_n 2, 1) := by decide +kernel
theorem dX5_sets_11 : decode cX5_sets 11 = .ok (.iadd, 1) := by decide +kernel
theorem dX5_sets_12 : decode cX5_sets 12 = .ok (.iload_n 3, 1) := by decide +kernel
theorem dX5_sets_13 : decode cX5_sets 13 = .ok (.iastore, 1) := by decide +kernel
theorem dX5_sets_14 : decode cX5_sets 14 = .ok (.return_, 1) := by decide +kernel
set_option maxRecDepth 20000 in
theorem ggX5_isWall_X5_in : GoodIn wsX5_isWall wsX5_in := goodIn_r _ [4] (by decide +kernel) (by decide +kernel)
set_option maxRecDepth 20000 in
theorem gX5_isWall_X5_in : GoodIn wsX5_isWall (va_wsS RX5 60 yX5_in wsX5_in) := goodIn_app (goodIn_of _ (by decide +kernel)) ggX5_isWall_X5_in
theorem dX5_isWall_0 : decode cX5_isWall 0 = .ok (.iload_n 0, 1) := by decide +kernel
theorem dX5_isWall_1 : decode cX5_isWall 1 = .ok (.iconst 0, 1) := by decide +kernel
theorem dX5_isWall_2 : decode cX5_isWall 2 = .ok (.bipush 9, 2) := by decide +kernel
theorem dX5_isWall_4 : decode cX5_isWall 4 = .ok (.invokestatic 60, 3) := by decide +kernel
theorem dX5_isWall_7 : decode cX5_isWall 7 = .ok (.ireturn, 1) := by decide +kernel
theorem dX5_ground_0 : decode cX5_ground 0 = .ok (.aload_n 0, 1) := by decide +kernel
theorem dX5_ground_1 : decode cX5_ground 1 = .ok (.getfield 7, 3) := by decide +kernel
theorem dX5_ground_4 : decode cX5_ground 4 = .ok (.bipush 8, 2) := by decide +kernel
theorem dX5_ground_6 : decode cX5_ground 6 = .ok (.iconst 2, 1) := by decide +kernel
theorem dX5_ground_7 : decode cX5_ground 7 = .ok (.iload_n 1, 1) := by decide +kernel
theorem dX5_ground_8 : decode cX5_ground 8 = .ok (.imul, 1) := by decide +kernel
theorem dX5_ground_9 : decode cX5_ground 9 = .ok (.iadd, 1) := by decide +kernel
theorem dX5_ground_10 : decode cX5_ground 10 = .ok (.iaload, 1) := by decide +kernel
theorem dX5_ground_11 : decode cX5_ground 11 = .ok (.ireturn, 1) := by decide +kernel
theorem dX5_becomes_0 : decode cX5_becomes 0 = .ok (.aload_n 0, 1) := by decide +kernel
theorem dX5_becomes_1 : decode cX5_becomes 1 = .ok (.getfield 7, 3) := by decide +kernel
theorem dX5_becomes_4 : decode cX5_becomes 4 = .ok (.iload_n 1, 1) := by decide +kernel
theorem dX5_becomes_5 : decode cX5_becomes 5 = .ok (.iaload, 1) := by decide +kernel
theorem dX5_becomes_6 : decode cX5_becomes 6 = .ok (.istore_n 3, 1) := by decide +kernel
theorem dX5_becomes_7 : decode cX5_becomes 7 = .ok (.aload_n 0, 1) := by decide +kernel
theorem dX5_becomes_8 : decode cX5_becomes 8 = .ok (.getfield 7, 3) := by decide +kernel
theorem dX5_becomes_11 : decode cX5_becomes 11 = .ok (.iload_n 1, 1) := by decide +kernel
theorem dX5_becomes_12 : decode cX5_becomes 12 = .ok (.iload_n 2, 1) := by decide +kernel
theorem dX5_becomes_13 : decode cX5_becomes 13 = .ok (.iastore, 1) := by decide +kernel
theorem dX5_becomes_14 : decode cX5_becomes 14 = .ok (.iload_n 3, 1) := by decide +kernel
theorem dX5_becomes_15 : decode cX5_becomes 15 = .ok (.ireturn, 1) := by decide +kernel
theorem dX5_ones_0 : decode cX5_ones 0 = .ok (.iconst 0, 1) := by decide +kernel
theorem dX5_ones_1 : decode cX5_ones 1 = .ok (.istore_n 1, 1) := by decide +kernel
theorem dX5_ones_2 : decode cX5_ones 2 = .ok (.iload_n 0, 1) := by decide +kernel
theorem dX5_ones_3 : decode cX5_ones 3 = .ok (.istore_n 2, 1) := by decide +kernel
theorem dX5_ones_4 : decode cX5_ones 4 = .ok (.iload_n 2, 1) := by decide +kernel
theorem dX5_ones_5 : decode cX5_ones 5 = .ok (.ifCond .eq 15, 3) := by decide +kernel
theorem dX5_ones_8 : decode cX5_ones 8 = .ok (.iinc 1 1, 3) := by decide +kernel
theorem dX5_ones_11 : decode cX5_ones 11 = .ok (.iload_n 2, 1) := by decide +kernel
theorem dX5_ones_12 : decode cX5_ones 12 = .ok (.iload_n 2, 1) := by decide +kernel
theorem dX5_ones_13 : decode cX5_ones 13 = .ok (.iconst 1, 1) := by decide +kernel
theorem dX5_ones_14 : decode cX5_ones 14 = .ok (.isub, 1) := by decide +kernel
theorem dX5_ones_15 : decode cX5_ones 15 = .ok (.iand, 1) := by decide +kernel
theorem dX5_ones_16 : decode cX5_ones 16 = .ok (.istore_n 2, 1) := by decide +kernel
theorem dX5_ones_17 : decode cX5_ones 17 = .ok (.goto (-13), 3) := by decide +kernel
theorem dX5_ones_20 : decode cX5_ones 20 = .ok (.iload_n 1, 1) := by decide +kernel
theorem dX5_ones_21 : decode cX5_ones 21 = .ok (.ireturn, 1) := by decide +kernel
set_option maxRecDepth 20000 in
theorem ggX5_feed_X5_in : GoodIn wsX5_feed wsX5_in := goodIn_r _ [7] (by decide +kernel) (by decide +kernel)
set_option maxRecDepth 20000 in
theorem gX5_feed_X5_in : GoodIn wsX5_feed (va_wsS RX5 60 yX5_in wsX5_in) := goodIn_app (goodIn_of _ (by decide +kernel)) ggX5_feed_X5_in
theorem dX5_feed_0 : decode cX5_feed 0 = .ok (.iload_n 3, 1) := by decide +kernel
theorem dX5_feed_1 : decode cX5_feed 1 = .ok (.iconst 1, 1) := by decide +kernel
theorem dX5_feed_2 : decode cX5_feed 2 = .ok (.bipush 8, 2) := by decide +kernel
theorem dX5_feed_4 : decode cX5_feed 4 = .ok (.invokestatic 60, 3) := by decide +kernel
theorem dX5_feed_7 : decode cX5_feed 7 = .ok (.ifCond .ne 5, 3) := by decide +kernel
theorem dX5_feed_10 : decode cX5_feed 10 = .ok (.iconst (-1), 1) := by decide +kernel
theorem dX5_feed_11 : decode cX5_feed 11 = .ok (.ireturn, 1) := by decide +kernel
theorem dX5_feed_12 : decode cX5_feed 12 = .ok (.aload_n 0, 1) := by decide +kernel
theorem dX5_feed_13 : decode cX5_feed 13 = .ok (.getfield 64, 3) := by decide +kernel
theorem dX5_feed_16 : decode cX5_feed 16 = .ok (.iload_n 3, 1) := by decide +kernel
theorem dX5_feed_17 : decode cX5_feed 17 = .ok (.iadd, 1) := by decide +kernel
theorem dX5_feed_18 : decode cX5_feed 18 = .ok (.sipush 200, 3) := by decide +kernel
theorem dX5_feed_21 : decode cX5_feed 21 = .ok (.if_icmp .le 6, 3) := by decide +kernel
