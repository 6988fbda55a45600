theorem dX0_init_0 : decode cX0_init 0 = .ok (.aload_n 0, 1) := by decide +kernel
theorem dX0_init_1 : decode cX0_init 1 = .ok (.invokespecial 1, 3) := by decide +kernel
theorem dX0_init_4 : decode cX0_init 4 = .ok (.aload_n 0, 1) := by decide +kernel
theorem dX0_init_5 : decode cX0_init 5 = .ok (.iload_n 1, 1) := by decide +kernel
theorem dX0_init_6 : decode cX0_init 6 = .ok (.putfield 7, 3) := by decide +kernel
theorem dX0_init_9 : decode cX0_init 9 = .ok (.aload_n 0, 1) := by decide +kernel
theorem dX0_init_10 : decode cX0_init 10 = .ok (.iload_n 2, 1) := by decide +kernel
theorem dX0_init_11 : decode cX0_init 11 = .ok (.putfield 13, 3) := by decide +kernel
theorem dX0_init_14 : decode cX0_init 14 = .ok (.aload_n 0, 1) := by decide +kernel
theorem dX0_init_15 : decode cX0_init 15 = .ok (.iload_n 2, 1) := by decide +kernel
theorem dX0_init_16 : decode cX0_init 16 = .ok (.newarray .int, 2) := by decide +kernel
theorem dX0_init_18 : decode cX0_init 18 = .ok (.putfield 16, 3) := by decide +kernel
theorem dX0_init_21 : decode cX0_init 21 = .ok (.return_, 1) := by decide +kernel
theorem dX1_init_0 : decode cX1_init 0 = .ok (.aload_n 0, 1) := by decide +kernel
theorem dX1_init_1 : decode cX1_init 1 = .ok (.invokespecial 3, 3) := by decide +kernel
theorem dX1_init_4 : decode cX1_init 4 = .ok (.aload_n 0, 1) := by decide +kernel
theorem dX1_init_5 : decode cX1_init 5 = .ok (.bipush 30, 2) := by decide +kernel
theorem dX1_init_7 : decode cX1_init 7 = .ok (.newarray .int, 2) := by decide +kernel
theorem dX1_init_9 : decode cX1_init 9 = .ok (.putfield 9, 3) := by decide +kernel
theorem dX1_init_12 : decode cX1_init 12 = .ok (.return_, 1) := by decide +kernel
set_option maxRecDepth 20000 in
theorem ggX1_become_X4_isUnder : GoodIn wsX1_become wsX4_isUnder := goodIn_r _ [9, 10, 11, 12, 8, 13] (by decide +kernel) (by decide +kernel)
set_option maxRecDepth 20000 in
theorem gX1_become_X4_isUnder_n25 : GoodIn wsX1_become (wsX4_isUnder) := ggX1_become_X4_isUnder
theorem dX1_become_0 : decode cX1_become 0 = .ok (.aload_n 0, 1) := by decide +kernel
theorem dX1_become_1 : decode cX1_become 1 = .ok (.iload_n 1, 1) := by decide +kernel
theorem dX1_become_2 : decode cX1_become 2 = .ok (.putfield 15, 3) := by decide +kernel
theorem dX1_become_5 : decode cX1_become 5 = .ok (.aload_n 0, 1) := by decide +kernel
theorem dX1_become_6 : decode cX1_become 6 = .ok (.iload_n 2, 1) := by decide +kernel
theorem dX1_become_7 : decode cX1_become 7 = .ok (.putfield 19, 3) := by decide +kernel
theorem dX1_become_10 : decode cX1_become 10 = .ok (.aload_n 0, 1) := by decide +kernel
theorem dX1_become_11 : decode cX1_become 11 = .ok (.iload_n 3, 1) := by decide +kernel
theorem dX1_become_12 : decode cX1_become 12 = .ok (.putfield 22, 3) := by decide +kernel
theorem dX1_become_15 : decode cX1_become 15 = .ok (.aload_n 0, 1) := by decide +kernel
theorem dX1_become_16 : decode cX1_become 16 = .ok (.iload_n 1, 1) := by decide +kernel
theorem dX1_become_17 : decode cX1_become 17 = .ok (.iconst 1, 1) := by decide +kernel
theorem dX1_become_18 : decode cX1_become 18 = .ok (.invokestatic 25, 3) := by decide +kernel
theorem dX1_become_21 : decode cX1_become 21 = .ok (.putfield 29, 3) := by decide +kernel
theorem dX1_become_24 : decode cX1_become 24 = .ok (.aload_n 0, 1) := by decide +kernel
theorem dX1_become_25 : decode cX1_become 25 = .ok (.iload_n 1, 1) := by decide +kernel
theorem dX1_become_26 : decode cX1_become 26 = .ok (.iconst 2, 1) := by decide +kernel
theorem dX1_become_27 : decode cX1_become 27 = .ok (.invokestatic 25, 3) := by decide +kernel
theorem dX1_become_30 : decode cX1_become 30 = .ok (.putfield 33, 3) := by decide +kernel
theorem dX1_become_33 : decode cX1_become 33 = .ok (.aload_n 0, 1) := by decide +kernel
theorem dX1_become_34 : decode cX1_become 34 = .ok (.iconst 0, 1) := by decide +kernel
theorem dX1_become_35 : decode cX1_become 35 = .ok (.putfield 36, 3) := by decide +kernel
theorem dX1_become_38 : decode cX1_become 38 = .ok (.return_, 1) := by decide +kernel
theorem dX1_begins_0 : decode cX1_begins 0 = .ok (.aload_n 0, 1) := by decide +kernel
theorem dX1_begins_1 : decode cX1_begins 1 = .ok (.getfield 39, 3) := by decide +kernel
theorem dX1_begins_4 : decode cX1_begins 4 = .ok (.bipush 30, 2) := by decide +kernel
theorem dX1_begins_6 : decode cX1_begins 6 = .ok (.if_icmp .ge 23, 3) := by decide +kernel
theorem dX1_begins_9 : decode cX1_begins 9 = .ok (.aload_n 0, 1) := by decide +kernel
theorem dX1_begins_10 : decode cX1_begins 10 = .ok (.getfield 9, 3) := by decide +kernel
theorem dX1_begins_13 : decode cX1_begins 13 = .ok (.aload_n 0, 1) := by decide +kernel
theorem dX1_begins_14 : decode cX1_begins 14 = .ok (.getfield 39, 3) := by decide +kernel
theorem dX1_begins_17 : decode cX1_begins 17 = .ok (.iload_n 1, 1) := by decide +kernel
theorem dX1_begins_18 : decode cX1_begins 18 = .ok (.iastore, 1) := by decide +kernel
theorem dX1_begins_19 : decode cX1_begins 19 = .ok (.aload_n 0, 1) := by decide +kernel
theorem dX1_begins_20 : decode cX1_begins 20 = .ok (.dup, 1) := by decide +kernel
theorem dX1_begins_21 : decode cX1_begins 21 = .ok (.getfield 39, 3) := by decide +kernel
theorem dX1_begins_24 : decode cX1_begins 24 = .ok (.iconst 1, 1) := by decide +kernel
theorem dX1_begins_25 : decode cX1_begins 25 = .ok (.iadd, 1) := by decide +kernel
theorem dX1_begins_26 : decode cX1_begins 26 = .ok (.putfield 39, 3) := by decide +kernel
theorem dX1_begins_29 : decode cX1_begins 29 = .ok (.return_, 1) := by decide +kernel
set_option maxRecDepth 20000 in
theorem ggX1_sprays_X1_begins : GoodIn wsX1_sprays wsX1_begins := goodIn_r _ [9, 10, 11, 12, 13, 14, 15, 16, 17, 18, 19] (by decide +kernel) (by decide +kernel)
set_option maxRecDepth 20000 in
theorem gX1_sprays_X1_begins : GoodIn wsX1_sprays (wsV RX1 42 RX1 yX1_begins wsX1_begins) := goodIn_app (goodIn_of _ (by decide +kernel)) ggX1_sprays_X1_begins
theorem dX1_sprays_0 : decode cX1_sprays 0 = .ok (.aload_n 0, 1) := by decide +kernel
theorem dX1_sprays_1 : decode cX1_sprays 1 = .ok (.getfield 15, 3) := by decide +kernel
theorem dX1_sprays_4 : decode cX1_sprays 4 = .ok (.iconst 3, 1) := by decide +kernel
theorem dX1_sprays_5 : decode cX1_sprays 5 = .ok (.if_icmp .ne 9, 3) := by decide +kernel
theorem dX1_sprays_8 : decode cX1_sprays 8 = .ok (.aload_n 0, 1) := by decide +kernel
theorem dX1_sprays_9 : decode cX1_sprays 9 = .ok (.bipush 51, 2) := by decide +kernel
theorem dX1_sprays_11 : decode cX1_sprays 11 = .ok (.invokevirtual 42, 3) := by decide +kernel
theorem dX1_sprays_14 : decode cX1_sprays 14 = .ok (.aload_n 0, 1) := by decide +kernel
theorem dX1_sprays_15 : decode cX1_sprays 15 = .ok (.getfield 15, 3) := by decide +kernel
theorem dX1_sprays_18 : decode cX1_sprays 18 = .ok (.iconst 4, 1) := by decide +kernel
theorem dX1_sprays_19 : decode cX1_sprays 19 = .ok (.if_icmp .ne 9, 3) := by decide +kernel
theorem dX1_sprays_22 : decode cX1_sprays 22 = .ok (.aload_n 0, 1) := by decide +kernel
theorem dX1_sprays_23 : decode cX1_sprays 23 = .ok (.bipush 40, 2) := by decide +kernel
theorem dX1_sprays_25 : decode cX1_sprays 25 = .ok (.invokevirtual 42, 3) := by decide +kernel
theorem dX1_sprays_28 : decode cX1_sprays 28 = .ok (.aload_n 0, 1) := by decide +kernel
theorem dX1_sprays_29 : decode cX1_sprays 29 = .ok (.getfield 33, 3) := by decide +kernel
theorem dX1_sprays_32 : decode cX1_sprays 32 = .ok (.ifCond .eq 9, 3) := by decide +kernel
theorem dX1_sprays_35 : decode cX1_sprays 35 = .ok (.aload_n 0, 1) := by decide +kernel
theorem dX1_sprays_36 : decode cX1_sprays 36 = .ok (.bipush 30, 2) := by decide +kernel
theorem dX1_sprays_38 : decode cX1_sprays 38 = .ok (.invokevirtual 42, 3) := by decide +kernel
theorem dX1_sprays_41 : decode cX1_sprays 41 = .ok (.aload_n 0, 1) := by decide +kernel
theorem dX1_sprays_42 : decode cX1_sprays 42 = .ok (.bipush 10, 2) := by decide +kernel
theorem dX1_sprays_44 : decode cX1_sprays 44 = .ok (.invokevirtual 42, 3) := by decide +kernel
theorem dX1_sprays_47 : decode cX1_sprays 47 = .ok (.iload_n 1, 1) := by decide +kernel
theorem dX1_sprays_48 : decode cX1_sprays 48 = .ok (.bipush 7, 2) := by decide +kernel
theorem dX1_sprays_50 : decode cX1_sprays 50 = .ok (.imul, 1) := by decide +kernel
theorem dX1_sprays_51 : decode cX1_sprays 51 = .ok (.aload_n 0, 1) := by decide +kernel
theorem dX1_sprays_52 : decode cX1_sprays 52 = .ok (.getfield 19, 3) := by decide +kernel
theorem dX1_sprays_55 : decode cX1_sprays 55 = .ok (.iadd, 1) := by decide +kernel
theorem dX1_sprays_56 : decode cX1_sprays 56 = .ok (.istore_n 2, 1) := by decide +kernel
theorem dX1_sprays_57 : decode cX1_sprays 57 = .ok (.aload_n 0, 1) := by decide +kernel
theorem dX1_sprays_58 : decode cX1_sprays 58 = .ok (.getfield 33, 3) := by decide +kernel
theorem dX1_sprays_61 : decode cX1_sprays 61 = .ok (.ifCond .eq 7, 3) := by decide +kernel
theorem dX1_sprays_64 : decode cX1_sprays 64 = .ok (.iconst 0, 1) := by decide +kernel
theorem dX1_sprays_65 : decode cX1_sprays 65 = .ok (.iload_n 2, 1) := by decide +kernel
theorem dX1_sprays_66 : decode cX1_sprays 66 = .ok (.isub, 1) := by decide +kernel
theorem dX1_sprays_67 : decode cX1_sprays 67 = .ok (.istore_n 2, 1) := by decide +kernel
theorem dX1_sprays_68 : decode cX1_sprays 68 = .ok (.aload_n 0, 1) := by decide +kernel
theorem dX1_sprays_69 : decode cX1_sprays 69 = .ok (.getfield 15, 3) := by decide +kernel
theorem dX1_sprays_72 : decode cX1_sprays 72 = .ok (.iconst 4, 1) := by decide +kernel
theorem dX1_sprays_73 : decode cX1_sprays 73 = .ok (.if_icmp .ne 8, 3) := by decide +kernel
theorem dX1_sprays_76 : decode cX1_sprays 76 = .ok (.iload_n 2, 1) := by decide +kernel
theorem dX1_sprays_77 : decode cX1_sprays 77 = .ok (.bipush 12, 2) := by decide +kernel
theorem dX1_sprays_79 : decode cX1_sprays 79 = .ok (.ixor, 1) := by decide +kernel
theorem dX1_sprays_80 : decode cX1_sprays 80 = .ok (.istore_n 2, 1) := by decide +kernel
theorem dX1_sprays_81 : decode cX1_sprays 81 = .ok (.aload_n 0, 1) := by decide +kernel
theorem dX1_sprays_82 : decode cX1_sprays 82 = .ok (.getfield 15, 3) := by decide +kernel
theorem dX1_sprays_85 : decode cX1_sprays 85 = .ok (.iconst 3, 1) := by decide +kernel
theorem dX1_sprays_86 : decode cX1_sprays 86 = .ok (.if_icmp .ne 12, 3) := by decide +kernel
theorem dX1_sprays_89 : decode cX1_sprays 89 = .ok (.iload_n 2, 1) := by decide +kernel
theorem dX1_sprays_90 : decode cX1_sprays 90 = .ok (.aload_n 0, 1) := by decide +kernel
theorem dX1_sprays_91 : decode cX1_sprays 91 = .ok (.getfield 22, 3) := by decide +kernel
theorem dX1_sprays_94 : decode cX1_sprays 94 = .ok (.isub, 1) := by decide +kernel
theorem dX1_sprays_95 : decode cX1_sprays 95 = .ok (.goto 4, 3) := by decide +kernel
theorem dX1_sprays_98 : decode cX1_sprays 98 = .ok (.iload_n 2, 1) := by decide +kernel
theorem dX1_sprays_99 : decode cX1_sprays 99 = .ok (.ireturn, 1) := by decide +kernel
set_option maxRecDepth 20000 in
theorem ggX1_drips_X1_begins : GoodIn wsX1_drips wsX1_begins := goodIn_r _ [8, 9, 10, 17, 18, 19, 20, 21, 22, 23, 24] (by decide +kernel) (by decide +kernel)
set_option maxRecDepth 20000 in
theorem gX1_drips_X1_begins : GoodIn wsX1_drips (wsV RX1 42 RX1 yX1_begins wsX1_begins) := goodIn_app (goodIn_of _ (by decide +kernel)) ggX1_drips_X1_begins
set_option maxRecDepth 20000 in
theorem ggX1_drips_X1_sprays : GoodIn wsX1_drips wsX1_sprays := goodIn_r _ [14, 1, 15, 16, 3, 4, 5, 6, 7, 8, 9, 10, 17, 18, 19, 20, 21, 22, 23, 24] (by decide +kernel) (by decide +kernel)
set_option maxRecDepth 20000 in
theorem gX1_drips_X1_sprays : GoodIn wsX1_drips (wsV RX1 46 RX1 yX1_sprays wsX1_sprays) := goodIn_app (goodIn_of _ (by decide +kernel)) ggX1_drips_X1_sprays
theorem dX1_drips_0 : decode cX1_drips 0 = .ok (.aload_n 0, 1) := by decide +kernel
theorem dX1_drips_1 : decode cX1_drips 1 = .ok (.getfield 15, 3) := by decide +kernel
theorem dX1_drips_4 : decode cX1_drips 4 = .ok (.iconst 4, 1) := by decide +kernel
theorem dX1_drips_5 : decode cX1_drips 5 = .ok (.if_icmp .ne 9, 3) := by decide +kernel
theorem dX1_drips_8 : decode cX1_drips 8 = .ok (.aload_n 0, 1) := by decide +kernel
theorem dX1_drips_9 : decode cX1_drips 9 = .ok (.bipush 41, 2) := by decide +kernel
theorem dX1_drips_11 : decode cX1_drips 11 = .ok (.invokevirtual 42, 3) := by decide +kernel
theorem dX1_drips_14 : decode cX1_drips 14 = .ok (.aload_n 0, 1) := by decide +kernel
theorem dX1_drips_15 : decode cX1_drips 15 = .ok (.getfield 29, 3) := by decide +kernel
theorem dX1_drips_18 : decode cX1_drips 18 = .ok (.ifCond .eq 9, 3) := by decide +kernel
theorem dX1_drips_21 : decode cX1_drips 21 = .ok (.aload_n 0, 1) := by decide +kernel
theorem dX1_drips_22 : decode cX1_drips 22 = .ok (.bipush 20, 2) := by decide +kernel
theorem dX1_drips_24 : decode cX1_drips 24 = .ok (.invokevirtual 42, 3) := by decide +kernel
theorem dX1_drips_27 : decode cX1_drips 27 = .ok (.aload_n 0, 1) := by decide +kernel
theorem dX1_drips_28 : decode cX1_drips 28 = .ok (.bipush 11, 2) := by decide +kernel
theorem dX1_drips_30 : decode cX1_drips 30 = .ok (.invokevirtual 42, 3) := by decide +kernel
theorem dX1_drips_33 : decode cX1_drips 33 = .ok (.aload_n 0, 1) := by decide +kernel
theorem dX1_drips_34 : decode cX1_drips 34 = .ok (.iload_n 1, 1) := by decide +kernel
theorem dX1_drips_35 : decode cX1_drips 35 = .ok (.invokevirtual 46, 3) := by decide +kernel
theorem dX1_drips_38 : decode cX1_drips 38 = .ok (.aload_n 0, 1) := by decide +kernel
theorem dX1_drips_39 : decode cX1_drips 39 = .ok (.getfield 22, 3) := by decide +kernel
theorem dX1_drips_42 : decode cX1_drips 42 = .ok (.iconst 5, 1) := by decide +kernel
theorem dX1_drips_43 : decode cX1_drips 43 = .ok (.imul, 1) := by decide +kernel
theorem dX1_drips_44 : decode cX1_drips 44 = .ok (.isub, 1) := by decide +kernel
theorem dX1_drips_45 : decode cX1_drips 45 = .ok (.istore_n 2, 1) := by decide +kernel
theorem dX1_drips_46 : decode cX1_drips 46 = .ok (.aload_n 0, 1) := by decide +kernel
theorem dX1_drips_47 : decode cX1_drips 47 = .ok (.getfield 29, 3) := by decide +kernel
theorem dX1_drips_50 : decode cX1_drips 50 = .ok (.ifCond .eq 8, 3) := by decide +kernel
theorem dX1_drips_53 : decode cX1_drips 53 = .ok (.iload_n 2, 1) := by decide +kernel
theorem dX1_drips_54 : decode cX1_drips 54 = .ok (.bipush 9, 2) := by decide +kernel
theorem dX1_drips_56 : decode cX1_drips 56 = .ok (.iadd, 1) := by decide +kernel
theorem dX1_drips_57 : decode cX1_drips 57 = .ok (.istore_n 2, 1) := by decide +kernel
theorem dX1_drips_58 : decode cX1_drips 58 = .ok (.aload_n 0, 1) := by decide +kernel
theorem dX1_drips_59 : decode cX1_drips 59 = .ok (.getfield 15, 3) := by decide +kernel
theorem dX1_drips_62 : decode cX1_drips 62 = .ok (.iconst 4, 1) := by decide +kernel
theorem dX1_drips_63 : decode cX1_drips 63 = .ok (.if_icmp .ne 16, 3) := by decide +kernel
theorem dX1_drips_66 : decode cX1_drips 66 = .ok (.iload_n 2, 1) := by decide +kernel
theorem dX1_drips_67 : decode cX1_drips 67 = .ok (.aload_n 0, 1) := by decide +kernel
theorem dX1_drips_68 : decode cX1_drips 68 = .ok (.aload_n 0, 1) := by decide +kernel
theorem dX1_drips_69 : decode cX1_drips 69 = .ok (.getfield 22, 3) := by decide +kernel
theorem dX1_drips_72 : decode cX1_drips 72 = .ok (.invokevirtual 46, 3) := by decide +kernel
theorem dX1_drips_75 : decode cX1_drips 75 = .ok (.iadd, 1) := by decide +kernel
theorem dX1_drips_76 : decode cX1_drips 76 = .ok (.goto 4, 3) := by decide +kernel
theorem dX1_drips_79 : decode cX1_drips 79 = .ok (.iload_n 2, 1) := by decide +kernel
theorem dX1_drips_80 : decode cX1_drips 80 = .ok (.ireturn, 1) := by decide +kernel
set_option maxRecDepth 20000 in
theorem ggX1_parts_X1_begins : GoodIn wsX1_parts wsX1_begins := goodIn_r _ [9, 10, 11, 17, 18, 19, 20, 21, 22, 23, 24] (by decide +kernel) (by decide +kernel)
set_option maxRecDepth 20000 in
theorem gX1_parts_X1_begins : GoodIn wsX1_parts (wsV RX1 42 RX1 yX1_begins wsX1_begins) := goodIn_app (goodIn_of _ (by decide +kernel)) ggX1_parts_X1_begins
set_option maxRecDepth 20000 in
theorem ggX1_parts_X1_sprays : GoodIn wsX1_parts wsX1_sprays := goodIn_r _ [15, 1, 16, 2, 3, 5, 6, 7, 8, 9, 10, 11, 17, 18, 19, 20, 21, 22, 23, 24] (by decide +kernel) (by decide +kernel)
set_option maxRecDepth 20000 in
theorem gX1_parts_X1_sprays : GoodIn wsX1_parts (wsV RX1 46 RX1 yX1_sprays wsX1_sprays) := goodIn_app (goodIn_of _ (by decide +kernel)) ggX1_parts_X1_sprays
theorem dX1_parts_0 : decode cX1_parts 0 = .ok (.iload_n 1, 1) := by decide +kernel
theorem dX1_parts_1 : decode cX1_parts 1 = .ok (.istore_n 2, 1) := by decide +kernel
theorem dX1_parts_2 : decode cX1_parts 2 = .ok (.aload_n 0, 1) := by decide +kernel
theorem dX1_parts_3 : decode cX1_parts 3 = .ok (.getfield 15, 3) := by decide +kernel
theorem dX1_parts_6 : decode cX1_parts 6 = .ok (.iconst 3, 1) := by decide +kernel
theorem dX1_parts_7 : decode cX1_parts 7 = .ok (.if_icmp .ne 16, 3) := by decide +kernel
theorem dX1_parts_10 : decode cX1_parts 10 = .ok (.aload_n 0, 1) := by decide +kernel
theorem dX1_parts_11 : decode cX1_parts 11 = .ok (.bipush 50, 2) := by decide +kernel
theorem dX1_parts_13 : decode cX1_parts 13 = .ok (.invokevirtual 42, 3) := by decide +kernel
theorem dX1_parts_16 : decode cX1_parts 16 = .ok (.iload_n 1, 1) := by decide +kernel
theorem dX1_parts_17 : decode cX1_parts 17 = .ok (.aload_n 0, 1) := by decide +kernel
theorem dX1_parts_18 : decode cX1_parts 18 = .ok (.getfield 19, 3) := by decide +kernel
theorem dX1_parts_21 : decode cX1_parts 21 = .ok (.isub, 1) := by decide +kernel
theorem dX1_parts_22 : decode cX1_parts 22 = .ok (.istore_n 2, 1) := by decide +kernel
theorem dX1_parts_23 : decode cX1_parts 23 = .ok (.aload_n 0, 1) := by decide +kernel
theorem dX1_parts_24 : decode cX1_parts 24 = .ok (.getfield 15, 3) := by decide +kernel
theorem dX1_parts_27 : decode cX1_parts 27 = .ok (.iconst 5, 1) := by decide +kernel
theorem dX1_parts_28 : decode cX1_parts 28 = .ok (.if_icmp .ne 9, 3) := by decide +kernel
theorem dX1_parts_31 : decode cX1_parts 31 = .ok (.aload_n 0, 1) := by decide +kernel
theorem dX1_parts_32 : decode cX1_parts 32 = .ok (.bipush 61, 2) := by decide +kernel
theorem dX1_parts_34 : decode cX1_parts 34 = .ok (.invokevirtual 42, 3) := by decide +kernel
theorem dX1_parts_37 : decode cX1_parts 37 = .ok (.aload_n 0, 1) := by decide +kernel
theorem dX1_parts_38 : decode cX1_parts 38 = .ok (.bipush 12, 2) := by decide +kernel
theorem dX1_parts_40 : decode cX1_parts 40 = .ok (.invokevirtual 42, 3) := by decide +kernel
theorem dX1_parts_43 : decode cX1_parts 43 = .ok (.aload_n 0, 1) := by decide +kernel
theorem dX1_parts_44 : decode cX1_parts 44 = .ok (.getfield 22, 3) := by decide +kernel
theorem dX1_parts_47 : decode cX1_parts 47 = .ok (.aload_n 0, 1) := by decide +kernel
theorem dX1_parts_48 : decode cX1_parts 48 = .ok (.getfield 19, 3) := by decide +kernel
theorem dX1_parts_51 : decode cX1_parts 51 = .ok (.isub, 1) := by decide +kernel
theorem dX1_parts_52 : decode cX1_parts 52 = .ok (.istore_n 3, 1) := by decide +kernel
theorem dX1_parts_53 : decode cX1_parts 53 = .ok (.iload_n 3, 1) := by decide +kernel
theorem dX1_parts_54 : decode cX1_parts 54 = .ok (.ifCond .ne 10, 3) := by decide +kernel
theorem dX1_parts_57 : decode cX1_parts 57 = .ok (.aload_n 0, 1) := by decide +kernel
theorem dX1_parts_58 : decode cX1_parts 58 = .ok (.iconst 1, 1) := by decide +kernel
theorem dX1_parts_59 : decode cX1_parts 59 = .ok (.putfield 36, 3) := by decide +kernel
theorem dX1_parts_62 : decode cX1_parts 62 = .ok (.iconst 0, 1) := by decide +kernel
theorem dX1_parts_63 : decode cX1_parts 63 = .ok (.ireturn, 1) := by decide +kernel
theorem dX1_parts_64 : decode cX1_parts 64 = .ok (.iload_n 2, 1) := by decide +kernel
theorem dX1_parts_65 : decode cX1_parts 65 = .ok (.iload_n 3, 1) := by decide +kernel
theorem dX1_parts_66 : decode cX1_parts 66 = .ok (.idiv, 1) := by decide +kernel
theorem dX1_parts_67 : decode cX1_parts 67 = .ok (.istore 4, 2) := by decide +kernel
theorem dX1_parts_69 : decode cX1_parts 69 = .ok (.aload_n 0, 1) := by decide +kernel
theorem dX1_parts_70 : decode cX1_parts 70 = .ok (.getfield 15, 3) := by decide +kernel
theorem dX1_parts_73 : decode cX1_parts 73 = .ok (.iconst 3, 1) := by decide +kernel
theorem dX1_parts_74 : decode cX1_parts 74 = .ok (.if_icmp .ne 8, 3) := by decide +kernel
theorem dX1_parts_77 : decode cX1_parts 77 = .ok (.iload 4, 2) := by decide +kernel
theorem dX1_parts_79 : decode cX1_parts 79 = .ok (.iconst 4, 1) := by decide +kernel
theorem dX1_parts_80 : decode cX1_parts 80 = .ok (.imul, 1) := by decide +kernel
theorem dX1_parts_81 : decode cX1_parts 81 = .ok (.ireturn, 1) := by decide +kernel
theorem dX1_parts_82 : decode cX1_parts 82 = .ok (.aload_n 0, 1) := by decide +kernel
theorem dX1_parts_83 : decode cX1_parts 83 = .ok (.getfield 15, 3) := by decide +kernel
theorem dX1_parts_86 : decode cX1_parts 86 = .ok (.iconst 5, 1) := by decide +kernel
theorem dX1_parts_87 : decode cX1_parts 87 = .ok (.if_icmp .ne 17, 3) := by decide +kernel
theorem dX1_parts_90 : decode cX1_parts 90 = .ok (.iload 4, 2) := by decide +kernel
theorem dX1_parts_92 : decode cX1_parts 92 = .ok (.aload_n 0, 1) := by decide +kernel
theorem dX1_parts_93 : decode cX1_parts 93 = .ok (.aload_n 0, 1) := by decide +kernel
theorem dX1_parts_94 : decode cX1_parts 94 = .ok (.getfield 19, 3) := by decide +kernel
theorem dX1_parts_97 : decode cX1_parts 97 = .ok (.invokevirtual 46, 3) := by decide +kernel
theorem dX1_parts_100 : decode cX1_parts 100 = .ok (.ixor, 1) := by decide +kernel
theorem dX1_parts_101 : decode cX1_parts 101 = .ok (.goto 5, 3) := by decide +kernel
theorem dX1_parts_104 : decode cX1_parts 104 = .ok (.iload 4, 2) := by decide +kernel
theorem dX1_parts_106 : decode cX1_parts 106 = .ok (.ireturn, 1) := by decide +kernel
set_option maxRecDepth 20000 in
theorem ggX1_fades_X1_begins : GoodIn wsX1_fades wsX1_begins := goodIn_r _ [8, 9, 10, 26, 27, 28, 29, 30, 31, 32, 33] (by decide +kernel) (by decide +kernel)
set_option maxRecDepth 20000 in
theorem gX1_fades_X1_begins : GoodIn wsX1_fades (wsV RX1 42 RX1 yX1_begins wsX1_begins) := goodIn_app (goodIn_of _ (by decide +kernel)) ggX1_fades_X1_begins
set_option maxRecDepth 20000 in
theorem ggX1_fades_X1_drips : GoodIn wsX1_fades wsX1_drips := goodIn_r _ [14, 1, 15, 16, 4, 5, 6, 7, 8, 9, 10, 17, 18, 19, 20, 2, 3, 26, 27, 28, 29, 30, 31, 32, 33] (by decide +kernel) (by decide +kernel)
set_option maxRecDepth 20000 in
theorem gX1_fades_X1_drips : GoodIn wsX1_fades (wsV RX1 50 RX1 yX1_drips wsX1_drips) := goodIn_app (goodIn_of _ (by decide +kernel)) ggX1_fades_X1_drips
set_option maxRecDepth 20000 in
theorem ggX1_fades_X1_parts : GoodIn wsX1_fades wsX1_parts := goodIn_r _ [24, 1, 3, 16, 25, 4, 5, 6, 7, 8, 9, 10, 17, 18, 19, 20, 2, 26, 27, 28, 29, 30, 31, 32, 33] (by decide +kernel) (by decide +kernel)
set_option maxRecDepth 20000 in
theorem gX1_fades_X1_parts : GoodIn wsX1_fades (wsV RX1 53 RX1 yX1_parts wsX1_parts) := goodIn_app (goodIn_of _ (by decide +kernel)) ggX1_fades_X1_parts
theorem dX1_fades_0 : decode cX1_fades 0 = .ok (.aload_n 0, 1) := by decide +kernel
theorem dX1_fades_1 : decode cX1_fades 1 = .ok (.getfield 15, 3) := by decide +kernel
theorem dX1_fades_4 : decode cX1_fades 4 = .ok (.iconst 5, 1) := by decide +kernel
theorem dX1_fades_5 : decode cX1_fades 5 = .ok (.if_icmp .ne 9, 3) := by decide +kernel
theorem dX1_fades_8 : decode cX1_fades 8 = .ok (.aload_n 0, 1) := by decide +kernel
theorem dX1_fades_9 : decode cX1_fades 9 = .ok (.bipush 60, 2) := by decide +kernel
theorem dX1_fades_11 : decode cX1_fades 11 = .ok (.invokevirtual 42, 3) := by decide +kernel
theorem dX1_fades_14 : decode cX1_fades 14 = .ok (.aload_n 0, 1) := by decide +kernel
theorem dX1_fades_15 : decode cX1_fades 15 = .ok (.getfield 33, 3) := by decide +kernel
theorem dX1_fades_18 : decode cX1_fades 18 = .ok (.ifCond .eq 9, 3) := by decide +kernel
theorem dX1_fades_21 : decode cX1_fades 21 = .ok (.aload_n 0, 1) := by decide +kernel
theorem dX1_fades_22 : decode cX1_fades 22 = .ok (.bipush 31, 2) := by decide +kernel
theorem dX1_fades_24 : decode cX1_fades 24 = .ok (.invokevirtual 42, 3) := by decide +kernel
theorem dX1_fades_27 : decode cX1_fades 27 = .ok (.aload_n 0, 1) := by decide +kernel
theorem dX1_fades_28 : decode cX1_fades 28 = .ok (.bipush 13, 2) := by decide +kernel
theorem dX1_fades_30 : decode cX1_fades 30 = .ok (.invokevirtual 42, 3) := by decide +kernel
theorem dX1_fades_33 : decode cX1_fades 33 = .ok (.aload_n 0, 1) := by decide +kernel
theorem dX1_fades_34 : decode cX1_fades 34 = .ok (.iload_n 1, 1) := by decide +kernel
theorem dX1_fades_35 : decode cX1_fades 35 = .ok (.invokevirtual 50, 3) := by decide +kernel
theorem dX1_fades_38 : decode cX1_fades 38 = .ok (.sipush 190, 3) := by decide +kernel
theorem dX1_fades_41 : decode cX1_fades 41 = .ok (.ixor, 1) := by decide +kernel
theorem dX1_fades_42 : decode cX1_fades 42 = .ok (.istore_n 2, 1) := by decide +kernel
theorem dX1_fades_43 : decode cX1_fades 43 = .ok (.aload_n 0, 1) := by decide +kernel
theorem dX1_fades_44 : decode cX1_fades 44 = .ok (.getfield 33, 3) := by decide +kernel
theorem dX1_fades_47 : decode cX1_fades 47 = .ok (.ifCond .eq 14, 3) := by decide +kernel
theorem dX1_fades_50 : decode cX1_fades 50 = .ok (.iload_n 2, 1) := by decide +kernel
theorem dX1_fades_51 : decode cX1_fades 51 = .ok (.aload_n 0, 1) := by decide +kernel
theorem dX1_fades_52 : decode cX1_fades 52 = .ok (.aload_n 0, 1) := by decide +kernel
theorem dX1_fades_53 : decode cX1_fades 53 = .ok (.getfield 19, 3) := by decide +kernel
theorem dX1_fades_56 : decode cX1_fades 56 = .ok (.invokevirtual 53, 3) := by decide +kernel
theorem dX1_fades_59 : decode cX1_fades 59 = .ok (.isub, 1) := by decide +kernel
theorem dX1_fades_60 : decode cX1_fades 60 = .ok (.ireturn, 1) := by decide +kernel
theorem dX1_fades_61 : decode cX1_fades 61 = .ok (.aload_n 0, 1) := by decide +kernel
theorem dX1_fades_62 : decode cX1_fades 62 = .ok (.getfield 15, 3) := by decide +kernel
theorem dX1_fades_65 : decode cX1_fades 65 = .ok (.iconst 5, 1) := by decide +kernel
theorem dX1_fades_66 : decode cX1_fades 66 = .ok (.if_icmp .ne 9, 3) := by decide +kernel
theorem dX1_fades_69 : decode cX1_fades 69 = .ok (.iconst 3, 1) := by decide +kernel
theorem dX1_fades_70 : decode cX1_fades 70 = .ok (.iload_n 2, 1) := by decide +kernel
theorem dX1_fades_71 : decode cX1_fades 71 = .ok (.isub, 1) := by decide +kernel
theorem dX1_fades_72 : decode cX1_fades 72 = .ok (.goto 4, 3) := by decide +kernel
theorem dX1_fades_75 : decode cX1_fades 75 = .ok (.iload_n 2, 1) := by decide +kernel
theorem dX1_fades_76 : decode cX1_fades 76 = .ok (.ireturn, 1) := by decide +kernel
set_option maxRecDepth 20000 in
theorem ggX2_init_X2_begin : GoodIn wsX2_init wsX2_begin := goodIn_r _ [19, 5, 6, 7, 20, 21, 22, 23, 24, 25, 26, 27, 28, 29, 30, 31, 32, 33, 34, 35, 36, 37, 38, 39] (by decide +kernel) (by decide +kernel)
set_option maxRecDepth 20000 in
theorem gX2_init_X2_begin : GoodIn wsX2_init (wsV RX2 43 RX2 yX2_begin wsX2_begin) := goodIn_app (goodIn_of _ (by decide +kernel)) ggX2_init_X2_begin
theorem dX2_init_0 : decode cX2_init 0 = .ok (.aload_n 0, 1) := by decide +kernel
theorem dX2_init_1 : decode cX2_init 1 = .ok (.invokespecial 3, 3) := by decide +kernel
theorem dX2_init_4 : decode cX2_init 4 = .ok (.aload_n 0, 1) := by decide +kernel
theorem dX2_init_5 : decode cX2_init 5 = .ok (.iconst 4, 1) := by decide +kernel
theorem dX2_init_6 : decode cX2_init 6 = .ok (.newarray .int, 2) := by decide +kernel
theorem dX2_init_8 : decode cX2_init 8 = .ok (.putfield 9, 3) := by decide +kernel
theorem dX2_init_11 : decode cX2_init 11 = .ok (.aload_n 0, 1) := by decide +kernel
theorem dX2_init_12 : decode cX2_init 12 = .ok (.bipush 10, 2) := by decide +kernel
theorem dX2_init_14 : decode cX2_init 14 = .ok (.newarray .int, 2) := by decide +kernel
theorem dX2_init_16 : decode cX2_init 16 = .ok (.putfield 15, 3) := by decide +kernel
theorem dX2_init_19 : decode cX2_init 19 = .ok (.aload_n 0, 1) := by decide +kernel
theorem dX2_init_20 : decode cX2_init 20 = .ok (.bipush 10, 2) := by decide +kernel
theorem dX2_init_22 : decode cX2_init 22 = .ok (.newarray .int, 2) := by decide +kernel
theorem dX2_init_24 : decode cX2_init 24 = .ok (.putfield 18, 3) := by decide +kernel
theorem dX2_init_27 : decode cX2_init 27 = .ok (.aload_n 0, 1) := by decide +kernel
theorem dX2_init_28 : decode cX2_init 28 = .ok (.bipush 8, 2) := by decide +kernel
theorem dX2_init_30 : decode cX2_init 30 = .ok (.newarray .int, 2) := by decide +kernel
theorem dX2_init_32 : decode cX2_init 32 = .ok (.putfield 21, 3) := by decide +kernel
theorem dX2_init_35 : decode cX2_init 35 = .ok (.aload_n 0, 1) := by decide +kernel
theorem dX2_init_36 : decode cX2_init 36 = .ok (.bipush 8, 2) := by decide +kernel
theorem dX2_init_38 : decode cX2_init 38 = .ok (.newarray .int, 2) := by decide +kernel
theorem dX2_init_40 : decode cX2_init 40 = .ok (.putfield 24, 3) := by decide +kernel
theorem dX2_init_43 : decode cX2_init 43 = .ok (.aload_n 0, 1) := by decide +kernel
theorem dX2_init_44 : decode cX2_init 44 = .ok (.bipush 8, 2) := by decide +kernel
theorem dX2_init_46 : decode cX2_init 46 = .ok (.newarray .int, 2) := by decide +kernel
theorem dX2_init_48 : decode cX2_init 48 = .ok (.putfield 27, 3) := by decide +kernel
theorem dX2_init_51 : decode cX2_init 51 = .ok (.aload_n 0, 1) := by decide +kernel
theorem dX2_init_52 : decode cX2_init 52 = .ok (.bipush 8, 2) := by decide +kernel
theorem dX2_init_54 : decode cX2_init 54 = .ok (.newarray .int, 2) := by decide +kernel
theorem dX2_init_56 : decode cX2_init 56 = .ok (.putfield 30, 3) := by decide +kernel
theorem dX2_init_59 : decode cX2_init 59 = .ok (.aload_n 0, 1) := by decide +kernel
theorem dX2_init_60 : decode cX2_init 60 = .ok (.bipush 8, 2) := by decide +kernel
theorem dX2_init_62 : decode cX2_init 62 = .ok (.newarray .int, 2) := by decide +kernel
theorem dX2_init_64 : decode cX2_init 64 = .ok (.putfield 33, 3) := by decide +kernel
theorem dX2_init_67 : decode cX2_init 67 = .ok (.aload_n 0, 1) := by decide +kernel
theorem dX2_init_68 : decode cX2_init 68 = .ok (.iconst 1, 1) := by decide +kernel
theorem dX2_init_69 : decode cX2_init 69 = .ok (.putfield 36, 3) := by decide +kernel
theorem dX2_init_72 : decode cX2_init 72 = .ok (.aload_n 0, 1) := by decide +kernel
theorem dX2_init_73 : decode cX2_init 73 = .ok (.bipush 10, 2) := by decide +kernel
theorem dX2_init_75 : decode cX2_init 75 = .ok (.newarray .int, 2) := by decide +kernel
theorem dX2_init_77 : decode cX2_init 77 = .ok (.putfield 40, 3) := by decide +kernel
theorem dX2_init_80 : decode cX2_init 80 = .ok (.aload_n 0, 1) := by decide +kernel
theorem dX2_init_81 : decode cX2_init 81 = .ok (.invokevirtual 43, 3) := by decide +kernel
theorem dX2_init_84 : decode cX2_init 84 = .ok (.return_, 1) := by decide +kernel
theorem dX2_begin_0 : decode cX2_begin 0 = .ok (.iconst 0, 1) := by decide +kernel
theorem dX2_begin_1 : decode cX2_begin 1 = .ok (.istore_n 1, 1) := by decide +kernel
theorem dX2_begin_2 : decode cX2_begin 2 = .ok (.iload_n 1, 1) := by decide +kernel
theorem dX2_begin_3 : decode cX2_begin 3 = .ok (.iconst 4, 1) := by decide +kernel
theorem dX2_begin_4 : decode cX2_begin 4 = .ok (.if_icmp .ge 20, 3) := by decide +kernel
theorem dX2_begin_7 : decode cX2_begin 7 = .ok (.aload_n 0, 1) := by decide +kernel
theorem dX2_begin_8 : decode cX2_begin 8 = .ok (.getfield 9, 3) := by decide +kernel
theorem dX2_begin_11 : decode cX2_begin 11 = .ok (.iload_n 1, 1) := by decide +kernel
theorem dX2_begin_12 : decode cX2_begin 12 = .ok (.getstatic 46, 3) := by decide +kernel
theorem dX2_begin_15 : decode cX2_begin 15 = .ok (.iload_n 1, 1) := by decide +kernel
theorem dX2_begin_16 : decode cX2_begin 16 = .ok (.iaload, 1) := by decide +kernel
theorem dX2_begin_17 : decode cX2_begin 17 = .ok (.iastore, 1) := by decide +kernel
theorem dX2_begin_18 : decode cX2_begin 18 = .ok (.iinc 1 1, 3) := by decide +kernel
theorem dX2_begin_21 : decode cX2_begin 21 = .ok (.goto (-19), 3) := by decide +kernel
theorem dX2_begin_24 : decode cX2_begin 24 = .ok (.iconst 0, 1) := by decide +kernel
theorem dX2_begin_25 : decode cX2_begin 25 = .ok (.istore_n 1, 1) := by decide +kernel
theorem dX2_begin_26 : decode cX2_begin 26 = .ok (.iload_n 1, 1) := by decide +kernel
theorem dX2_begin_27 : decode cX2_begin 27 = .ok (.bipush 10, 2) := by decide +kernel
theorem dX2_begin_29 : decode cX2_begin 29 = .ok (.if_icmp .ge 23, 3) := by decide +kernel
theorem dX2_begin_32 : decode cX2_begin 32 = .ok (.aload_n 0, 1) := by decide +kernel
theorem dX2_begin_33 : decode cX2_begin 33 = .ok (.getfield 15, 3) := by decide +kernel
theorem dX2_begin_36 : decode cX2_begin 36 = .ok (.iload_n 1, 1) := by decide +kernel
theorem dX2_begin_37 : decode cX2_begin 37 = .ok (.iconst 0, 1) := by decide +kernel
theorem dX2_begin_38 : decode cX2_begin 38 = .ok (.iastore, 1) := by decide +kernel
theorem dX2_begin_39 : decode cX2_begin 39 = .ok (.aload_n 0, 1) := by decide +kernel
theorem dX2_begin_40 : decode cX2_begin 40 = .ok (.getfield 18, 3) := by decide +kernel
theorem dX2_begin_43 : decode cX2_begin 43 = .ok (.iload_n 1, 1) := by decide +kernel
theorem dX2_begin_44 : decode cX2_begin 44 = .ok (.iconst 3, 1) := by decide +kernel
theorem dX2_begin_45 : decode cX2_begin 45 = .ok (.iastore, 1) := by decide +kernel
theorem dX2_begin_46 : decode cX2_begin 46 = .ok (.iinc 1 1, 3) := by decide +kernel
theorem dX2_begin_49 : decode cX2_begin 49 = .ok (.goto (-23), 3) := by decide +kernel
theorem dX2_begin_52 : decode cX2_begin 52 = .ok (.aload_n 0, 1) := by decide +kernel
theorem dX2_begin_53 : decode cX2_begin 53 = .ok (.iconst 0, 1) := by decide +kernel
theorem dX2_begin_54 : decode cX2_begin 54 = .ok (.putfield 49, 3) := by decide +kernel
theorem dX2_begin_57 : decode cX2_begin 57 = .ok (.aload_n 0, 1) := by decide +kernel
theorem dX2_begin_58 : decode cX2_begin 58 = .ok (.iconst 0, 1) := by decide +kernel
theorem dX2_begin_59 : decode cX2_begin 59 = .ok (.putfield 52, 3) := by decide +kernel
theorem dX2_begin_62 : decode cX2_begin 62 = .ok (.aload_n 0, 1) := by decide +kernel
theorem dX2_begin_63 : decode cX2_begin 63 = .ok (.iconst 0, 1) := by decide +kernel
theorem dX2_begin_64 : decode cX2_begin 64 = .ok (.putfield 55, 3) := by decide +kernel
theorem dX2_begin_67 : decode cX2_begin 67 = .ok (.aload_n 0, 1) := by decide +kernel
theorem dX2_begin_68 : decode cX2_begin 68 = .ok (.iconst 0, 1) := by decide +kernel
theorem dX2_begin_69 : decode cX2_begin 69 = .ok (.putfield 58, 3) := by decide +kernel
theorem dX2_begin_72 : decode cX2_begin 72 = .ok (.aload_n 0, 1) := by decide +kernel
theorem dX2_begin_73 : decode cX2_begin 73 = .ok (.iconst 0, 1) := by decide +kernel
theorem dX2_begin_74 : decode cX2_begin 74 = .ok (.putfield 61, 3) := by decide +kernel
theorem dX2_begin_77 : decode cX2_begin 77 = .ok (.return_, 1) := by decide +kernel
theorem dX2_become_0 : decode cX2_become 0 = .ok (.aload_n 1, 1) := by decide +kernel
theorem dX2_become_1 : decode cX2_become 1 = .ok (.getfield 9, 3) := by decide +kernel
theorem dX2_become_4 : decode cX2_become 4 = .ok (.iconst 0, 1) := by decide +kernel
theorem dX2_become_5 : decode cX2_become 5 = .ok (.aload_n 0, 1) := by decide +kernel
theorem dX2_become_6 : decode cX2_become 6 = .ok (.getfield 9, 3) := by decide +kernel
theorem dX2_become_9 : decode cX2_become 9 = .ok (.iconst 0, 1) := by decide +kernel
theorem dX2_become_10 : decode cX2_become 10 = .ok (.iconst 4, 1) := by decide +kernel
theorem dX2_become_11 : decode cX2_become 11 = .ok (.invokestatic 64, 3) := by decide +kernel
theorem dX2_become_14 : decode cX2_become 14 = .ok (.aload_n 1, 1) := by decide +kernel
theorem dX2_become_15 : decode cX2_become 15 = .ok (.getfield 15, 3) := by decide +kernel
theorem dX2_become_18 : decode cX2_become 18 = .ok (.iconst 0, 1) := by decide +kernel
theorem dX2_become_19 : decode cX2_become 19 = .ok (.aload_n 0, 1) := by decide +kernel
theorem dX2_become_20 : decode cX2_become 20 = .ok (.getfield 15, 3) := by decide +kernel
theorem dX2_become_23 : decode cX2_become 23 = .ok (.iconst 0, 1) := by decide +kernel
theorem dX2_become_24 : decode cX2_become 24 = .ok (.bipush 10, 2) := by decide +kernel
theorem dX2_become_26 : decode cX2_become 26 = .ok (.invokestatic 64, 3) := by decide +kernel
theorem dX2_become_29 : decode cX2_become 29 = .ok (.aload_n 1, 1) := by decide +kernel
theorem dX2_become_30 : decode cX2_become 30 = .ok (.getfield 18, 3) := by decide +kernel
theorem dX2_become_33 : decode cX2_become 33 = .ok (.iconst 0, 1) := by decide +kernel
theorem dX2_become_34 : decode cX2_become 34 = .ok (.aload_n 0, 1) := by decide +kernel
theorem dX2_become_35 : decode cX2_become 35 = .ok (.getfield 18, 3) := by decide +kernel
theorem dX2_become_38 : decode cX2_become 38 = .ok (.iconst 0, 1) := by decide +kernel
theorem dX2_become_39 : decode cX2_become 39 = .ok (.bipush 10, 2) := by decide +kernel
theorem dX2_become_41 : decode cX2_become 41 = .ok (.invokestatic 64, 3) := by decide +kernel
theorem dX2_become_44 : decode cX2_become 44 = .ok (.aload_n 0, 1) := by decide +kernel
theorem dX2_become_45 : decode cX2_become 45 = .ok (.aload_n 1, 1) := by decide +kernel
theorem dX2_become_46 : decode cX2_become 46 = .ok (.getfield 49, 3) := by decide +kernel
theorem dX2_become_49 : decode cX2_become 49 = .ok (.putfield 49, 3) := by decide +kernel
theorem dX2_become_52 : decode cX2_become 52 = .ok (.aload_n 1, 1) := by decide +kernel
theorem dX2_become_53 : decode cX2_become 53 = .ok (.getfield 21, 3) := by decide +kernel
theorem dX2_become_56 : decode cX2_become 56 = .ok (.iconst 0, 1) := by decide +kernel
theorem dX2_become_57 : decode cX2_become 57 = .ok (.aload_n 0, 1) := by decide +kernel
theorem dX2_become_58 : decode cX2_become 58 = .ok (.getfield 21, 3) := by decide +kernel
theorem dX2_become_61 : decode cX2_become 61 = .ok (.iconst 0, 1) := by decide +kernel
theorem dX2_become_62 : decode cX2_become 62 = .ok (.bipush 8, 2) := by decide +kernel
theorem dX2_become_64 : decode cX2_become 64 = .ok (.invokestatic 64, 3) := by decide +kernel
theorem dX2_become_67 : decode cX2_become 67 = .ok (.aload_n 1, 1) := by decide +kernel
theorem dX2_become_68 : decode cX2_become 68 = .ok (.getfield 24, 3) := by decide +kernel
theorem dX2_become_71 : decode cX2_become 71 = .ok (.iconst 0, 1) := by decide +kernel
theorem dX2_become_72 : decode cX2_become 72 = .ok (.aload_n 0, 1) := by decide +kernel
theorem dX2_become_73 : decode cX2_become 73 = .ok (.getfield 24, 3) := by decide +kernel
theorem dX2_become_76 : decode cX2_become 76 = .ok (.iconst 0, 1) := by decide +kernel
theorem dX2_become_77 : decode cX2_become 77 = .ok (.bipush 8, 2) := by decide +kernel
theorem dX2_become_79 : decode cX2_become 79 = .ok (.invokestatic 64, 3) := by decide +kernel
theorem dX2_become_82 : decode cX2_become 82 = .ok (.aload_n 1, 1) := by decide +kernel
theorem dX2_become_83 : decode cX2_become 83 = .ok (.getfield 27, 3) := by decide +kernel
theorem dX2_become_86 : decode cX2_become 86 = .ok (.iconst 0, 1) := by decide +kernel
theorem dX2_become_87 : decode cX2_become 87 = .ok (.aload_n 0, 1) := by decide +kernel
theorem dX2_become_88 : decode cX2_become 88 = .ok (.getfield 27, 3) := by decide +kernel
theorem dX2_become_91 : decode cX2_become 91 = .ok (.iconst 0, 1) := by decide +kernel
theorem dX2_become_92 : decode cX2_become 92 = .ok (.bipush 8, 2) := by decide +kernel
theorem dX2_become_94 : decode cX2_become 94 = .ok (.invokestatic 64, 3) := by decide +kernel
theorem dX2_become_97 : decode cX2_become 97 = .ok (.aload_n 1, 1) := by decide +kernel
theorem dX2_become_98 : decode cX2_become 98 = .ok (.getfield 30, 3) := by decide +kernel
theorem dX2_become_101 : decode cX2_become 101 = .ok (.iconst 0, 1) := by decide +kernel
theorem dX2_become_102 : decode cX2_become 102 = .ok (.aload_n 0, 1) := by decide +kernel
theorem dX2_become_103 : decode cX2_become 103 = .ok (.getfield 30, 3) := by decide +kernel
theorem dX2_become_106 : decode cX2_become 106 = .ok (.iconst 0, 1) := by decide +kernel
theorem dX2_become_107 : decode cX2_become 107 = .ok (.bipush 8, 2) := by decide +kernel
theorem dX2_become_109 : decode cX2_become 109 = .ok (.invokestatic 64, 3) := by decide +kernel
theorem dX2_become_112 : decode cX2_become 112 = .ok (.aload_n 1, 1) := by decide +kernel
theorem dX2_become_113 : decode cX2_become 113 = .ok (.getfield 33, 3) := by decide +kernel
theorem dX2_become_116 : decode cX2_become 116 = .ok (.iconst 0, 1) := by decide +kernel
theorem dX2_become_117 : decode cX2_become 117 = .ok (.aload_n 0, 1) := by decide +kernel
theorem dX2_become_118 : decode cX2_become 118 = .ok (.getfield 33, 3) := by decide +kernel
theorem dX2_become_121 : decode cX2_become 121 = .ok (.iconst 0, 1) := by decide +kernel
theorem dX2_become_122 : decode cX2_become 122 = .ok (.bipush 8, 2) := by decide +kernel
theorem dX2_become_124 : decode cX2_become 124 = .ok (.invokestatic 64, 3) := by decide +kernel
theorem dX2_become_127 : decode cX2_become 127 = .ok (.aload_n 0, 1) := by decide +kernel
theorem dX2_become_128 : decode cX2_become 128 = .ok (.aload_n 1, 1) := by decide +kernel
theorem dX2_become_129 : decode cX2_become 129 = .ok (.getfield 52, 3) := by decide +kernel
theorem dX2_become_132 : decode cX2_become 132 = .ok (.putfield 52, 3) := by decide +kernel
theorem dX2_become_135 : decode cX2_become 135 = .ok (.aload_n 0, 1) := by decide +kernel
theorem dX2_become_136 : decode cX2_become 136 = .ok (.aload_n 1, 1) := by decide +kernel
theorem dX2_become_137 : decode cX2_become 137 = .ok (.getfield 55, 3) := by decide +kernel
theorem dX2_become_140 : decode cX2_become 140 = .ok (.putfield 55, 3) := by decide +kernel
theorem dX2_become_143 : decode cX2_become 143 = .ok (.aload_n 0, 1) := by decide +kernel
theorem dX2_become_144 : decode cX2_become 144 = .ok (.aload_n 1, 1) := by decide +kernel
theorem dX2_become_145 : decode cX2_become 145 = .ok (.getfield 36, 3) := by decide +kernel
theorem dX2_become_148 : decode cX2_become 148 = .ok (.putfield 36, 3) := by decide +kernel
theorem dX2_become_151 : decode cX2_become 151 = .ok (.aload_n 0, 1) := by decide +kernel
theorem dX2_become_152 : decode cX2_become 152 = .ok (.iconst 0, 1) := by decide +kernel
theorem dX2_become_153 : decode cX2_become 153 = .ok (.putfield 58, 3) := by decide +kernel
theorem dX2_become_156 : decode cX2_become 156 = .ok (.aload_n 0, 1) := by decide +kernel
theorem dX2_become_157 : decode cX2_become 157 = .ok (.iconst 0, 1) := by decide +kernel
theorem dX2_become_158 : decode cX2_become 158 = .ok (.putfield 61, 3) := by decide +kernel
theorem dX2_become_161 : decode cX2_become 161 = .ok (.return_, 1) := by decide +kernel
theorem dX2_addName_0 : decode cX2_addName 0 = .ok (.aload_n 0, 1) := by decide +kernel
theorem dX2_addName_1 : decode cX2_addName 1 = .ok (.getfield 49, 3) := by decide +kernel
theorem dX2_addName_4 : decode cX2_addName 4 = .ok (.bipush 8, 2) := by decide +kernel
theorem dX2_addName_6 : decode cX2_addName 6 = .ok (.if_icmp .lt 5, 3) := by decide +kernel
theorem dX2_addName_9 : decode cX2_addName 9 = .ok (.iconst 0, 1) := by decide +kernel
theorem dX2_addName_10 : decode cX2_addName 10 = .ok (.ireturn, 1) := by decide +kernel
theorem dX2_addName_11 : decode cX2_addName 11 = .ok (.aload_n 0, 1) := by decide +kernel
theorem dX2_addName_12 : decode cX2_addName 12 = .ok (.getfield 21, 3) := by decide +kernel
theorem dX2_addName_15 : decode cX2_addName 15 = .ok (.aload_n 0, 1) := by decide +kernel
theorem dX2_addName_16 : decode cX2_addName 16 = .ok (.getfield 49, 3) := by decide +kernel
theorem dX2_addName_19 : decode cX2_addName 19 = .ok (.iload_n 1, 1) := by decide +kernel
theorem dX2_addName_20 : decode cX2_addName 20 = .ok (.iastore, 1) := by decide +kernel
theorem dX2_addName_21 : decode cX2_addName 21 = .ok (.aload_n 0, 1) := by decide +kernel
theorem dX2_addName_22 : decode cX2_addName 22 = .ok (.getfield 24, 3) := by decide +kernel
theorem dX2_addName_25 : decode cX2_addName 25 = .ok (.aload_n 0, 1) := by decide +kernel
theorem dX2_addName_26 : decode cX2_addName 26 = .ok (.getfield 49, 3) := by decide +kernel
theorem dX2_addName_29 : decode cX2_addName 29 = .ok (.iload_n 2, 1) := by decide +kernel
theorem dX2_addName_30 : decode cX2_addName 30 = .ok (.iastore, 1) := by decide +kernel
theorem dX2_addName_31 : decode cX2_addName 31 = .ok (.aload_n 0, 1) := by decide +kernel
theorem dX2_addName_32 : decode cX2_addName 32 = .ok (.getfield 27, 3) := by decide +kernel
theorem dX2_addName_35 : decode cX2_addName 35 = .ok (.aload_n 0, 1) := by decide +kernel
theorem dX2_addName_36 : decode cX2_addName 36 = .ok (.getfield 49, 3) := by decide +kernel
theorem dX2_addName_39 : decode cX2_addName 39 = .ok (.iload_n 3, 1) := by decide +kernel
theorem dX2_addName_40 : decode cX2_addName 40 = .ok (.iastore, 1) := by decide +kernel
theorem dX2_addName_41 : decode cX2_addName 41 = .ok (.aload_n 0, 1) := by decide +kernel
theorem dX2_addName_42 : decode cX2_addName 42 = .ok (.getfield 30, 3) := by decide +kernel
theorem dX2_addName_45 : decode cX2_addName 45 = .ok (.aload_n 0, 1) := by decide +kernel
theorem dX2_addName_46 : decode cX2_addName 46 = .ok (.getfield 49, 3) := by decide +kernel
theorem dX2_addName_49 : decode cX2_addName 49 = .ok (.iload 4, 2) := by decide +kernel
theorem dX2_addName_51 : decode cX2_addName 51 = .ok (.iastore, 1) := by decide +kernel
theorem dX2_addName_52 : decode cX2_addName 52 = .ok (.aload_n 0, 1) := by decide +kernel
theorem dX2_addName_53 : decode cX2_addName 53 = .ok (.getfield 33, 3) := by decide +kernel
theorem dX2_addName_56 : decode cX2_addName 56 = .ok (.aload_n 0, 1) := by decide +kernel
theorem dX2_addName_57 : decode cX2_addName 57 = .ok (.getfield 49, 3) := by decide +kernel
theorem dX2_addName_60 : decode cX2_addName 60 = .ok (.iconst 0, 1) := by decide +kernel
theorem dX2_addName_61 : decode cX2_addName 61 = .ok (.iastore, 1) := by decide +kernel
theorem dX2_addName_62 : decode cX2_addName 62 = .ok (.aload_n 0, 1) := by decide +kernel
theorem dX2_addName_63 : decode cX2_addName 63 = .ok (.dup, 1) := by decide +kernel
theorem dX2_addName_64 : decode cX2_addName 64 = .ok (.getfield 49, 3) := by decide +kernel
theorem dX2_addName_67 : decode cX2_addName 67 = .ok (.iconst 1, 1) := by decide +kernel
theorem dX2_addName_68 : decode cX2_addName 68 = .ok (.iadd, 1) := by decide +kernel
theorem dX2_addName_69 : decode cX2_addName 69 = .ok (.putfield 49, 3) := by decide +kernel
theorem dX2_addName_72 : decode cX2_addName 72 = .ok (.iconst 1, 1) := by decide +kernel
theorem dX2_addName_73 : decode cX2_addName 73 = .ok (.ireturn, 1) := by decide +kernel
set_option maxRecDepth 20000 in
theorem ggX2_growsOf_X2_othersBy : GoodIn wsX2_growsOf wsX2_othersBy := goodIn_r _ [9, 10, 1, 11, 12, 13, 14, 15, 16, 17, 18, 19, 20, 21, 22, 23, 24, 25] (by decide +kernel) (by decide +kernel)
set_option maxRecDepth 20000 in
theorem gX2_growsOf_X2_othersBy : GoodIn wsX2_growsOf (wsV RX2 70 RX2 yX2_othersBy wsX2_othersBy) := goodIn_app (goodIn_of _ (by decide +kernel)) ggX2_growsOf_X2_othersBy
theorem dX2_growsOf_0 : decode cX2_growsOf 0 = .ok (.aload_n 0, 1) := by decide +kernel
theorem dX2_growsOf_1 : decode cX2_growsOf 1 = .ok (.getfield 30, 3) := by decide +kernel
theorem dX2_growsOf_4 : decode cX2_growsOf 4 = .ok (.iload_n 1, 1) := by decide +kernel
theorem dX2_growsOf_5 : decode cX2_growsOf 5 = .ok (.iaload, 1) := by decide +kernel
theorem dX2_growsOf_6 : decode cX2_growsOf 6 = .ok (.bipush 10, 2) := by decide +kernel
theorem dX2_growsOf_8 : decode cX2_growsOf 8 = .ok (.if_icmp .eq 27, 3) := by decide +kernel
theorem dX2_growsOf_11 : decode cX2_growsOf 11 = .ok (.aload_n 0, 1) := by decide +kernel
theorem dX2_growsOf_12 : decode cX2_growsOf 12 = .ok (.getfield 15, 3) := by decide +kernel
theorem dX2_growsOf_15 : decode cX2_growsOf 15 = .ok (.aload_n 0, 1) := by decide +kernel
theorem dX2_growsOf_16 : decode cX2_growsOf 16 = .ok (.getfield 30, 3) := by decide +kernel
theorem dX2_growsOf_19 : decode cX2_growsOf 19 = .ok (.iload_n 1, 1) := by decide +kernel
theorem dX2_growsOf_20 : decode cX2_growsOf 20 = .ok (.iaload, 1) := by decide +kernel
theorem dX2_growsOf_21 : decode cX2_growsOf 21 = .ok (.iaload, 1) := by decide +kernel
theorem dX2_growsOf_22 : decode cX2_growsOf 22 = .ok (.iconst 1, 1) := by decide +kernel
theorem dX2_growsOf_23 : decode cX2_growsOf 23 = .ok (.if_icmp .ne 12, 3) := by decide +kernel
theorem dX2_growsOf_26 : decode cX2_growsOf 26 = .ok (.aload_n 0, 1) := by decide +kernel
theorem dX2_growsOf_27 : decode cX2_growsOf 27 = .ok (.getfield 9, 3) := by decide +kernel
theorem dX2_growsOf_30 : decode cX2_growsOf 30 = .ok (.iconst 1, 1) := by decide +kernel
theorem dX2_growsOf_31 : decode cX2_growsOf 31 = .ok (.iaload, 1) := by decide +kernel
theorem dX2_growsOf_32 : decode cX2_growsOf 32 = .ok (.goto 4, 3) := by decide +kernel
theorem dX2_growsOf_35 : decode cX2_growsOf 35 = .ok (.iconst 0, 1) := by decide +kernel
theorem dX2_growsOf_36 : decode cX2_growsOf 36 = .ok (.istore_n 2, 1) := by decide +kernel
theorem dX2_growsOf_37 : decode cX2_growsOf 37 = .ok (.aload_n 0, 1) := by decide +kernel
theorem dX2_growsOf_38 : decode cX2_growsOf 38 = .ok (.getfield 21, 3) := by decide +kernel
theorem dX2_growsOf_41 : decode cX2_growsOf 41 = .ok (.iload_n 1, 1) := by decide +kernel
theorem dX2_growsOf_42 : decode cX2_growsOf 42 = .ok (.iaload, 1) := by decide +kernel
theorem dX2_growsOf_43 : decode cX2_growsOf 43 = .ok (.tableswitch 63 1 5 #[33, 43, 37, 51, 61], 33) := by decide +kernel
theorem dX2_growsOf_76 : decode cX2_growsOf 76 = .ok (.iconst 2, 1) := by decide +kernel
theorem dX2_growsOf_77 : decode cX2_growsOf 77 = .ok (.iload_n 2, 1) := by decide +kernel
theorem dX2_growsOf_78 : decode cX2_growsOf 78 = .ok (.iadd, 1) := by decide +kernel
theorem dX2_growsOf_79 : decode cX2_growsOf 79 = .ok (.ireturn, 1) := by decide +kernel
theorem dX2_growsOf_80 : decode cX2_growsOf 80 = .ok (.iconst 2, 1) := by decide +kernel
theorem dX2_growsOf_81 : decode cX2_growsOf 81 = .ok (.iload_n 2, 1) := by decide +kernel
theorem dX2_growsOf_82 : decode cX2_growsOf 82 = .ok (.iadd, 1) := by decide +kernel
theorem dX2_growsOf_83 : decode cX2_growsOf 83 = .ok (.iconst 2, 1) := by decide +kernel
theorem dX2_growsOf_84 : decode cX2_growsOf 84 = .ok (.imul, 1) := by decide +kernel
theorem dX2_growsOf_85 : decode cX2_growsOf 85 = .ok (.ireturn, 1) := by decide +kernel
theorem dX2_growsOf_86 : decode cX2_growsOf 86 = .ok (.iconst 2, 1) := by decide +kernel
theorem dX2_growsOf_87 : decode cX2_growsOf 87 = .ok (.aload_n 0, 1) := by decide +kernel
theorem dX2_growsOf_88 : decode cX2_growsOf 88 = .ok (.iload_n 1, 1) := by decide +kernel
theorem dX2_growsOf_89 : decode cX2_growsOf 89 = .ok (.invokevirtual 70, 3) := by decide +kernel
theorem dX2_growsOf_92 : decode cX2_growsOf 92 = .ok (.isub, 1) := by decide +kernel
theorem dX2_growsOf_93 : decode cX2_growsOf 93 = .ok (.ireturn, 1) := by decide +kernel
theorem dX2_growsOf_94 : decode cX2_growsOf 94 = .ok (.iconst 2, 1) := by decide +kernel
theorem dX2_growsOf_95 : decode cX2_growsOf 95 = .ok (.aload_n 0, 1) := by decide +kernel
theorem dX2_growsOf_96 : decode cX2_growsOf 96 = .ok (.iload_n 1, 1) := by decide +kernel
theorem dX2_growsOf_97 : decode cX2_growsOf 97 = .ok (.invokevirtual 70, 3) := by decide +kernel
theorem dX2_growsOf_100 : decode cX2_growsOf 100 = .ok (.isub, 1) := by decide +kernel
theorem dX2_growsOf_101 : decode cX2_growsOf 101 = .ok (.iconst 3, 1) := by decide +kernel
theorem dX2_growsOf_102 : decode cX2_growsOf 102 = .ok (.iadd, 1) := by decide +kernel
theorem dX2_growsOf_103 : decode cX2_growsOf 103 = .ok (.ireturn, 1) := by decide +kernel
theorem dX2_growsOf_104 : decode cX2_growsOf 104 = .ok (.iconst 0, 1) := by decide +kernel
theorem dX2_growsOf_105 : decode cX2_growsOf 105 = .ok (.ireturn, 1) := by decide +kernel
theorem dX2_growsOf_106 : decode cX2_growsOf 106 = .ok (.iconst 2, 1) := by decide +kernel
theorem dX2_growsOf_107 : decode cX2_growsOf 107 = .ok (.ireturn, 1) := by decide +kernel
set_option maxRecDepth 20000 in
theorem ggX2_holdsOf_X2_othersBy : GoodIn wsX2_holdsOf wsX2_othersBy := goodIn_r _ [9, 10, 11, 12, 13, 14, 15, 16, 17, 18, 19, 20, 21, 22, 23, 24, 25, 26] (by decide +kernel) (by decide +kernel)
set_option maxRecDepth 20000 in
theorem gX2_holdsOf_X2_othersBy : GoodIn wsX2_holdsOf (wsV RX2 70 RX2 yX2_othersBy wsX2_othersBy) := goodIn_app (goodIn_of _ (by decide +kernel)) ggX2_holdsOf_X2_othersBy
theorem dX2_holdsOf_0 : decode cX2_holdsOf 0 = .ok (.aload_n 0, 1) := by decide +kernel
theorem dX2_holdsOf_1 : decode cX2_holdsOf 1 = .ok (.getfield 27, 3) := by decide +kernel
theorem dX2_holdsOf_4 : decode cX2_holdsOf 4 = .ok (.iload_n 1, 1) := by decide +kernel
theorem dX2_holdsOf_5 : decode cX2_holdsOf 5 = .ok (.iaload, 1) := by decide +kernel
theorem dX2_holdsOf_6 : decode cX2_holdsOf 6 = .ok (.iconst 2, 1) := by decide +kernel
theorem dX2_holdsOf_7 : decode cX2_holdsOf 7 = .ok (.idiv, 1) := by decide +kernel
theorem dX2_holdsOf_8 : decode cX2_holdsOf 8 = .ok (.istore_n 2, 1) := by decide +kernel
theorem dX2_holdsOf_9 : decode cX2_holdsOf 9 = .ok (.aload_n 0, 1) := by decide +kernel
theorem dX2_holdsOf_10 : decode cX2_holdsOf 10 = .ok (.getfield 21, 3) := by decide +kernel
theorem dX2_holdsOf_13 : decode cX2_holdsOf 13 = .ok (.iload_n 1, 1) := by decide +kernel
theorem dX2_holdsOf_14 : decode cX2_holdsOf 14 = .ok (.iaload, 1) := by decide +kernel
theorem dX2_holdsOf_15 : decode cX2_holdsOf 15 = .ok (.tableswitch 75 1 5 #[33, 58, 42, 62, 72], 33) := by decide +kernel
theorem dX2_holdsOf_48 : decode cX2_holdsOf 48 = .ok (.iload_n 2, 1) := by decide +kernel
theorem dX2_holdsOf_49 : decode cX2_holdsOf 49 = .ok (.aload_n 0, 1) := by decide +kernel
theorem dX2_holdsOf_50 : decode cX2_holdsOf 50 = .ok (.getfield 9, 3) := by decide +kernel
theorem dX2_holdsOf_53 : decode cX2_holdsOf 53 = .ok (.iconst 1, 1) := by decide +kernel
theorem dX2_holdsOf_54 : decode cX2_holdsOf 54 = .ok (.iaload, 1) := by decide +kernel
theorem dX2_holdsOf_55 : decode cX2_holdsOf 55 = .ok (.isub, 1) := by decide +kernel
theorem dX2_holdsOf_56 : decode cX2_holdsOf 56 = .ok (.ireturn, 1) := by decide +kernel
theorem dX2_holdsOf_57 : decode cX2_holdsOf 57 = .ok (.iload_n 2, 1) := by decide +kernel
theorem dX2_holdsOf_58 : decode cX2_holdsOf 58 = .ok (.aload_n 0, 1) := by decide +kernel
theorem dX2_holdsOf_59 : decode cX2_holdsOf 59 = .ok (.getfield 9, 3) := by decide +kernel
theorem dX2_holdsOf_62 : decode cX2_holdsOf 62 = .ok (.iconst 1, 1) := by decide +kernel
theorem dX2_holdsOf_63 : decode cX2_holdsOf 63 = .ok (.iaload, 1) := by decide +kernel
theorem dX2_holdsOf_64 : decode cX2_holdsOf 64 = .ok (.isub, 1) := by decide +kernel
theorem dX2_holdsOf_65 : decode cX2_holdsOf 65 = .ok (.aload_n 0, 1) := by decide +kernel
theorem dX2_holdsOf_66 : decode cX2_holdsOf 66 = .ok (.getfield 24, 3) := by decide +kernel
theorem dX2_holdsOf_69 : decode cX2_holdsOf 69 = .ok (.iload_n 1, 1) := by decide +kernel
theorem dX2_holdsOf_70 : decode cX2_holdsOf 70 = .ok (.iaload, 1) := by decide +kernel
theorem dX2_holdsOf_71 : decode cX2_holdsOf 71 = .ok (.iadd, 1) := by decide +kernel
theorem dX2_holdsOf_72 : decode cX2_holdsOf 72 = .ok (.ireturn, 1) := by decide +kernel
theorem dX2_holdsOf_73 : decode cX2_holdsOf 73 = .ok (.iload_n 2, 1) := by decide +kernel
theorem dX2_holdsOf_74 : decode cX2_holdsOf 74 = .ok (.iconst 5, 1) := by decide +kernel
theorem dX2_holdsOf_75 : decode cX2_holdsOf 75 = .ok (.iadd, 1) := by decide +kernel
theorem dX2_holdsOf_76 : decode cX2_holdsOf 76 = .ok (.ireturn, 1) := by decide +kernel
theorem dX2_holdsOf_77 : decode cX2_holdsOf 77 = .ok (.iload_n 2, 1) := by decide +kernel
theorem dX2_holdsOf_78 : decode cX2_holdsOf 78 = .ok (.iconst 5, 1) := by decide +kernel
theorem dX2_holdsOf_79 : decode cX2_holdsOf 79 = .ok (.iadd, 1) := by decide +kernel
theorem dX2_holdsOf_80 : decode cX2_holdsOf 80 = .ok (.aload_n 0, 1) := by decide +kernel
theorem dX2_holdsOf_81 : decode cX2_holdsOf 81 = .ok (.iload_n 1, 1) := by decide +kernel
theorem dX2_holdsOf_82 : decode cX2_holdsOf 82 = .ok (.invokevirtual 70, 3) := by decide +kernel
theorem dX2_holdsOf_85 : decode cX2_holdsOf 85 = .ok (.iadd, 1) := by decide +kernel
theorem dX2_holdsOf_86 : decode cX2_holdsOf 86 = .ok (.ireturn, 1) := by decide +kernel
theorem dX2_holdsOf_87 : decode cX2_holdsOf 87 = .ok (.bipush 99, 2) := by decide +kernel
theorem dX2_holdsOf_89 : decode cX2_holdsOf 89 = .ok (.ireturn, 1) := by decide +kernel
theorem dX2_holdsOf_90 : decode cX2_holdsOf 90 = .ok (.iload_n 2, 1) := by decide +kernel
theorem dX2_holdsOf_91 : decode cX2_holdsOf 91 = .ok (.ireturn, 1) := by decide +kernel
theorem dX2_backOf_0 : decode cX2_backOf 0 = .ok (.aload_n 0, 1) := by decide +kernel
theorem dX2_backOf_1 : decode cX2_backOf 1 = .ok (.getfield 21, 3) := by decide +kernel
theorem dX2_backOf_4 : decode cX2_backOf 4 = .ok (.iload_n 1, 1) := by decide +kernel
theorem dX2_backOf_5 : decode cX2_backOf 5 = .ok (.iaload, 1) := by decide +kernel
theorem dX2_backOf_6 : decode cX2_backOf 6 = .ok (.tableswitch 61 1 5 #[34, 38, 36, 47, 58], 34) := by decide +kernel
theorem dX2_backOf_40 : decode cX2_backOf 40 = .ok (.iconst 1, 1) := by decide +kernel
theorem dX2_backOf_41 : decode cX2_backOf 41 = .ok (.ireturn, 1) := by decide +kernel
theorem dX2_backOf_42 : decode cX2_backOf 42 = .ok (.iconst 1, 1) := by decide +kernel
theorem dX2_backOf_43 : decode cX2_backOf 43 = .ok (.ireturn, 1) := by decide +kernel
theorem dX2_backOf_44 : decode cX2_backOf 44 = .ok (.iconst 3, 1) := by decide +kernel
theorem dX2_backOf_45 : decode cX2_backOf 45 = .ok (.aload_n 0, 1) := by decide +kernel
theorem dX2_backOf_46 : decode cX2_backOf 46 = .ok (.getfield 24, 3) := by decide +kernel
theorem dX2_backOf_49 : decode cX2_backOf 49 = .ok (.iload_n 1, 1) := by decide +kernel
theorem dX2_backOf_50 : decode cX2_backOf 50 = .ok (.iaload, 1) := by decide +kernel
theorem dX2_backOf_51 : decode cX2_backOf 51 = .ok (.iadd, 1) := by decide +kernel
theorem dX2_backOf_52 : decode cX2_backOf 52 = .ok (.ireturn, 1) := by decide +kernel
theorem dX2_backOf_53 : decode cX2_backOf 53 = .ok (.iconst 3, 1) := by decide +kernel
theorem dX2_backOf_54 : decode cX2_backOf 54 = .ok (.aload_n 0, 1) := by decide +kernel
theorem dX2_backOf_55 : decode cX2_backOf 55 = .ok (.getfield 24, 3) := by decide +kernel
theorem dX2_backOf_58 : decode cX2_backOf 58 = .ok (.iload_n 1, 1) := by decide +kernel
theorem dX2_backOf_59 : decode cX2_backOf 59 = .ok (.iaload, 1) := by decide +kernel
theorem dX2_backOf_60 : decode cX2_backOf 60 = .ok (.iadd, 1) := by decide +kernel
theorem dX2_backOf_61 : decode cX2_backOf 61 = .ok (.iconst 2, 1) := by decide +kernel
theorem dX2_backOf_62 : decode cX2_backOf 62 = .ok (.idiv, 1) := by decide +kernel
theorem dX2_backOf_63 : decode cX2_backOf 63 = .ok (.ireturn, 1) := by decide +kernel
theorem dX2_backOf_64 : decode cX2_backOf 64 = .ok (.bipush 9, 2) := by decide +kernel
theorem dX2_backOf_66 : decode cX2_backOf 66 = .ok (.ireturn, 1) := by decide +kernel
theorem dX2_backOf_67 : decode cX2_backOf 67 = .ok (.iconst 3, 1) := by decide +kernel
theorem dX2_backOf_68 : decode cX2_backOf 68 = .ok (.ireturn, 1) := by decide +kernel
theorem dX2_othersBy_0 : decode cX2_othersBy 0 = .ok (.iconst (-1), 1) := by decide +kernel
theorem dX2_othersBy_1 : decode cX2_othersBy 1 = .ok (.istore_n 2, 1) := by decide +kernel
theorem dX2_othersBy_2 : decode cX2_othersBy 2 = .ok (.iconst 0, 1) := by decide +kernel
theorem dX2_othersBy_3 : decode cX2_othersBy 3 = .ok (.istore_n 3, 1) := by decide +kernel
theorem dX2_othersBy_4 : decode cX2_othersBy 4 = .ok (.iload_n 3, 1) := by decide +kernel
theorem dX2_othersBy_5 : decode cX2_othersBy 5 = .ok (.aload_n 0, 1) := by decide +kernel
theorem dX2_othersBy_6 : decode cX2_othersBy 6 = .ok (.getfield 49, 3) := by decide +kernel
theorem dX2_othersBy_9 : decode cX2_othersBy 9 = .ok (.if_icmp .ge 27, 3) := by decide +kernel
theorem dX2_othersBy_12 : decode cX2_othersBy 12 = .ok (.aload_n 0, 1) := by decide +kernel
theorem dX2_othersBy_13 : decode cX2_othersBy 13 = .ok (.getfield 30, 3) := by decide +kernel
theorem dX2_othersBy_16 : decode cX2_othersBy 16 = .ok (.iload_n 3, 1) := by decide +kernel
theorem dX2_othersBy_17 : decode cX2_othersBy 17 = .ok (.iaload, 1) := by decide +kernel
theorem dX2_othersBy_18 : decode cX2_othersBy 18 = .ok (.aload_n 0, 1) := by decide +kernel
theorem dX2_othersBy_19 : decode cX2_othersBy 19 = .ok (.getfield 30, 3) := by decide +kernel
theorem dX2_othersBy_22 : decode cX2_othersBy 22 = .ok (.iload_n 1, 1) := by decide +kernel
theorem dX2_othersBy_23 : decode cX2_othersBy 23 = .ok (.iaload, 1) := by decide +kernel
theorem dX2_othersBy_24 : decode cX2_othersBy 24 = .ok (.if_icmp .ne 6, 3) := by decide +kernel
theorem dX2_othersBy_27 : decode cX2_othersBy 27 = .ok (.iinc 2 1, 3) := by decide +kernel
theorem dX2_othersBy_30 : decode cX2_othersBy 30 = .ok (.iinc 3 1, 3) := by decide +kernel
theorem dX2_othersBy_33 : decode cX2_othersBy 33 = .ok (.goto (-29), 3) := by decide +kernel
theorem dX2_othersBy_36 : decode cX2_othersBy 36 = .ok (.iload_n 2, 1) := by decide +kernel
theorem dX2_othersBy_37 : decode cX2_othersBy 37 = .ok (.ireturn, 1) := by decide +kernel
theorem dX2_looksOf_0 : decode cX2_looksOf 0 = .ok (.iconst 0, 1) := by decide +kernel
theorem dX2_looksOf_1 : decode cX2_looksOf 1 = .ok (.istore_n 2, 1) := by decide +kernel
theorem dX2_looksOf_2 : decode cX2_looksOf 2 = .ok (.iconst 0, 1) := by decide +kernel
theorem dX2_looksOf_3 : decode cX2_looksOf 3 = .ok (.istore_n 3, 1) := by decide +kernel
theorem dX2_looksOf_4 : decode cX2_looksOf 4 = .ok (.iload_n 3, 1) := by decide +kernel
theorem dX2_looksOf_5 : decode cX2_looksOf 5 = .ok (.aload_n 0, 1) := by decide +kernel
theorem dX2_looksOf_6 : decode cX2_looksOf 6 = .ok (.getfield 49, 3) := by decide +kernel
theorem dX2_looksOf_9 : decode cX2_looksOf 9 = .ok (.if_icmp .ge 28, 3) := by decide +kernel
theorem dX2_looksOf_12 : decode cX2_looksOf 12 = .ok (.aload_n 0, 1) := by decide +kernel
theorem dX2_looksOf_13 : decode cX2_looksOf 13 = .ok (.getfield 30, 3) := by decide +kernel
theorem dX2_looksOf_16 : decode cX2_looksOf 16 = .ok (.iload_n 3, 1) := by decide +kernel
theorem dX2_looksOf_17 : decode cX2_looksOf 17 = .ok (.iaload, 1) := by decide +kernel
theorem dX2_looksOf_18 : decode cX2_looksOf 18 = .ok (.iload_n 1, 1) := by decide +kernel
theorem dX2_looksOf_19 : decode cX2_looksOf 19 = .ok (.if_icmp .ne 12, 3) := by decide +kernel
theorem dX2_looksOf_22 : decode cX2_looksOf 22 = .ok (.iload_n 2, 1) := by decide +kernel
theorem dX2_looksOf_23 : decode cX2_looksOf 23 = .ok (.aload_n 0, 1) := by decide +kernel
theorem dX2_looksOf_24 : decode cX2_looksOf 24 = .ok (.getfield 27, 3) := by decide +kernel
theorem dX2_looksOf_27 : decode cX2_looksOf 27 = .ok (.iload_n 3, 1) := by decide +kernel
theorem dX2_looksOf_28 : decode cX2_looksOf 28 = .ok (.iaload, 1) := by decide +kernel
theorem dX2_looksOf_29 : decode cX2_looksOf 29 = .ok (.iadd, 1) := by decide +kernel
theorem dX2_looksOf_30 : decode cX2_looksOf 30 = .ok (.istore_n 2, 1) := by decide +kernel
theorem dX2_looksOf_31 : decode cX2_looksOf 31 = .ok (.iinc 3 1, 3) := by decide +kernel
theorem dX2_looksOf_34 : decode cX2_looksOf 34 = .ok (.goto (-30), 3) := by decide +kernel
theorem dX2_looksOf_37 : decode cX2_looksOf 37 = .ok (.aload_n 0, 1) := by decide +kernel
theorem dX2_looksOf_38 : decode cX2_looksOf 38 = .ok (.getfield 18, 3) := by decide +kernel
theorem dX2_looksOf_41 : decode cX2_looksOf 41 = .ok (.iload_n 1, 1) := by decide +kernel
theorem dX2_looksOf_42 : decode cX2_looksOf 42 = .ok (.iaload, 1) := by decide +kernel
theorem dX2_looksOf_43 : decode cX2_looksOf 43 = .ok (.iload_n 2, 1) := by decide +kernel
theorem dX2_looksOf_44 : decode cX2_looksOf 44 = .ok (.imul, 1) := by decide +kernel
theorem dX2_looksOf_45 : decode cX2_looksOf 45 = .ok (.ireturn, 1) := by decide +kernel
theorem dX2_looksOfAll_0 : decode cX2_looksOfAll 0 = .ok (.iconst 0, 1) := by decide +kernel
theorem dX2_looksOfAll_1 : decode cX2_looksOfAll 1 = .ok (.istore_n 1, 1) := by decide +kernel
theorem dX2_looksOfAll_2 : decode cX2_looksOfAll 2 = .ok (.iconst 0, 1) := by decide +kernel
theorem dX2_looksOfAll_3 : decode cX2_looksOfAll 3 = .ok (.istore_n 2, 1) := by decide +kernel
theorem dX2_looksOfAll_4 : decode cX2_looksOfAll 4 = .ok (.iload_n 2, 1) := by decide +kernel
theorem dX2_looksOfAll_5 : decode cX2_looksOfAll 5 = .ok (.aload_n 0, 1) := by decide +kernel
theorem dX2_looksOfAll_6 : decode cX2_looksOfAll 6 = .ok (.getfield 49, 3) := by decide +kernel
theorem dX2_looksOfAll_9 : decode cX2_looksOfAll 9 = .ok (.if_icmp .ge 41, 3) := by decide +kernel
theorem dX2_looksOfAll_12 : decode cX2_looksOfAll 12 = .ok (.aload_n 0, 1) := by decide +kernel
theorem dX2_looksOfAll_13 : decode cX2_looksOfAll 13 = .ok (.getfield 30, 3) := by decide +kernel
theorem dX2_looksOfAll_16 : decode cX2_looksOfAll 16 = .ok (.iload_n 2, 1) := by decide +kernel
theorem dX2_looksOfAll_17 : decode cX2_looksOfAll 17 = .ok (.iaload, 1) := by decide +kernel
theorem dX2_looksOfAll_18 : decode cX2_looksOfAll 18 = .ok (.bipush 10, 2) := by decide +kernel
theorem dX2_looksOfAll_20 : decode cX2_looksOfAll 20 = .ok (.if_icmp .eq 24, 3) := by decide +kernel
theorem dX2_looksOfAll_23 : decode cX2_looksOfAll 23 = .ok (.iload_n 1, 1) := by decide +kernel
theorem dX2_looksOfAll_24 : decode cX2_looksOfAll 24 = .ok (.aload_n 0, 1) := by decide +kernel
theorem dX2_looksOfAll_25 : decode cX2_looksOfAll 25 = .ok (.getfield 18, 3) := by decide +kernel
theorem dX2_looksOfAll_28 : decode cX2_looksOfAll 28 = .ok (.aload_n 0, 1) := by decide +kernel
theorem dX2_looksOfAll_29 : decode cX2_looksOfAll 29 = .ok (.getfield 30, 3) := by decide +kernel
theorem dX2_looksOfAll_32 : decode cX2_looksOfAll 32 = .ok (.iload_n 2, 1) := by decide +kernel
theorem dX2_looksOfAll_33 : decode cX2_looksOfAll 33 = .ok (.iaload, 1) := by decide +kernel
theorem dX2_looksOfAll_34 : decode cX2_looksOfAll 34 = .ok (.iaload, 1) := by decide +kernel
theorem dX2_looksOfAll_35 : decode cX2_looksOfAll 35 = .ok (.aload_n 0, 1) := by decide +kernel
theorem dX2_looksOfAll_36 : decode cX2_looksOfAll 36 = .ok (.getfield 27, 3) := by decide +kernel
theorem dX2_looksOfAll_39 : decode cX2_looksOfAll 39 = .ok (.iload_n 2, 1) := by decide +kernel
theorem dX2_looksOfAll_40 : decode cX2_looksOfAll 40 = .ok (.iaload, 1) := by decide +kernel
theorem dX2_looksOfAll_41 : decode cX2_looksOfAll 41 = .ok (.imul, 1) := by decide +kernel
theorem dX2_looksOfAll_42 : decode cX2_looksOfAll 42 = .ok (.iadd, 1) := by decide +kernel
theorem dX2_looksOfAll_43 : decode cX2_looksOfAll 43 = .ok (.istore_n 1, 1) := by decide +kernel
theorem dX2_looksOfAll_44 : decode cX2_looksOfAll 44 = .ok (.iinc 2 1, 3) := by decide +kernel
theorem dX2_looksOfAll_47 : decode cX2_looksOfAll 47 = .ok (.goto (-43), 3) := by decide +kernel
theorem dX2_looksOfAll_50 : decode cX2_looksOfAll 50 = .ok (.iload_n 1, 1) := by decide +kernel
theorem dX2_looksOfAll_51 : decode cX2_looksOfAll 51 = .ok (.ireturn, 1) := by decide +kernel
set_option maxRecDepth 20000 in
theorem ggX2_wallsLookedAt_X2_looksOf : GoodIn wsX2_wallsLookedAt wsX2_looksOf := goodIn_r _ [5, 6, 7, 8, 9, 10, 11, 12, 13, 14, 15, 16, 17, 18, 19, 20, 21, 22, 23, 24] (by decide +kernel) (by decide +kernel)
set_option maxRecDepth 20000 in
theorem gX2_wallsLookedAt_X2_looksOf : GoodIn wsX2_wallsLookedAt (wsV RX2 74 RX2 yX2_looksOf wsX2_looksOf) := goodIn_app (goodIn_of _ (by decide +kernel)) ggX2_wallsLookedAt_X2_looksOf
theorem dX2_wallsLookedAt_0 : decode cX2_wallsLookedAt 0 = .ok (.iconst 0, 1) := by decide +kernel
theorem dX2_wallsLookedAt_1 : decode cX2_wallsLookedAt 1 = .ok (.istore_n 1, 1) := by decide +kernel
theorem dX2_wallsLookedAt_2 : decode cX2_wallsLookedAt 2 = .ok (.iconst 0, 1) := by decide +kernel
theorem dX2_wallsLookedAt_3 : decode cX2_wallsLookedAt 3 = .ok (.istore_n 2, 1) := by decide +kernel
theorem dX2_wallsLookedAt_4 : decode cX2_wallsLookedAt 4 = .ok (.iload_n 2, 1) := by decide +kernel
theorem dX2_wallsLookedAt_5 : decode cX2_wallsLookedAt 5 = .ok (.bipush 10, 2) := by decide +kernel
theorem dX2_wallsLookedAt_7 : decode cX2_wallsLookedAt 7 = .ok (.if_icmp .ge 20, 3) := by decide +kernel
theorem dX2_wallsLookedAt_10 : decode cX2_wallsLookedAt 10 = .ok (.aload_n 0, 1) := by decide +kernel
theorem dX2_wallsLookedAt_11 : decode cX2_wallsLookedAt 11 = .ok (.iload_n 2, 1) := by decide +kernel
theorem dX2_wallsLookedAt_12 : decode cX2_wallsLookedAt 12 = .ok (.invokevirtual 74, 3) := by decide +kernel
theorem dX2_wallsLookedAt_15 : decode cX2_wallsLookedAt 15 = .ok (.ifCond .le 6, 3) := by decide +kernel
theorem dX2_wallsLookedAt_18 : decode cX2_wallsLookedAt 18 = .ok (.iinc 1 1, 3) := by decide +kernel
theorem dX2_wallsLookedAt_21 : decode cX2_wallsLookedAt 21 = .ok (.iinc 2 1, 3) := by decide +kernel
theorem dX2_wallsLookedAt_24 : decode cX2_wallsLookedAt 24 = .ok (.goto (-20), 3) := by decide +kernel
theorem dX2_wallsLookedAt_27 : decode cX2_wallsLookedAt 27 = .ok (.iload_n 1, 1) := by decide +kernel
theorem dX2_wallsLookedAt_28 : decode cX2_wallsLookedAt 28 = .ok (.ireturn, 1) := by decide +kernel
theorem dX2_namesOn_0 : decode cX2_namesOn 0 = .ok (.iconst 0, 1) := by decide +kernel
theorem dX2_namesOn_1 : decode cX2_namesOn 1 = .ok (.istore_n 2, 1) := by decide +kernel
theorem dX2_namesOn_2 : decode cX2_namesOn 2 = .ok (.iconst 0, 1) := by decide +kernel
theorem dX2_namesOn_3 : decode cX2_namesOn 3 = .ok (.istore_n 3, 1) := by decide +kernel
theorem dX2_namesOn_4 : decode cX2_namesOn 4 = .ok (.iload_n 3, 1) := by decide +kernel
theorem dX2_namesOn_5 : decode cX2_namesOn 5 = .ok (.aload_n 0, 1) := by decide +kernel
theorem dX2_namesOn_6 : decode cX2_namesOn 6 = .ok (.getfield 49, 3) := by decide +kernel
theorem dX2_namesOn_9 : decode cX2_namesOn 9 = .ok (.if_icmp .ge 25, 3) := by decide +kernel
theorem dX2_namesOn_12 : decode cX2_namesOn 12 = .ok (.aload_n 0, 1) := by decide +kernel
theorem dX2_namesOn_13 : decode cX2_namesOn 13 = .ok (.getfield 30, 3) := by decide +kernel
theorem dX2_namesOn_16 : decode cX2_namesOn 16 = .ok (.iload_n 3, 1) := by decide +kernel
theorem dX2_namesOn_17 : decode cX2_namesOn 17 = .ok (.iaload, 1) := by decide +kernel
theorem dX2_namesOn_18 : decode cX2_namesOn 18 = .ok (.iload_n 1, 1) := by decide +kernel
theorem dX2_namesOn_19 : decode cX2_namesOn 19 = .ok (.if_icmp .ne 9, 3) := by decide +kernel
theorem dX2_namesOn_22 : decode cX2_namesOn 22 = .ok (.iload_n 2, 1) := by decide +kernel
theorem dX2_namesOn_23 : decode cX2_namesOn 23 = .ok (.iconst 1, 1) := by decide +kernel
theorem dX2_namesOn_24 : decode cX2_namesOn 24 = .ok (.iload_n 3, 1) := by decide +kernel
theorem dX2_namesOn_25 : decode cX2_namesOn 25 = .ok (.ishl, 1) := by decide +kernel
theorem dX2_namesOn_26 : decode cX2_namesOn 26 = .ok (.ior, 1) := by decide +kernel
theorem dX2_namesOn_27 : decode cX2_namesOn 27 = .ok (.istore_n 2, 1) := by decide +kernel
theorem dX2_namesOn_28 : decode cX2_namesOn 28 = .ok (.iinc 3 1, 3) := by decide +kernel
theorem dX2_namesOn_31 : decode cX2_namesOn 31 = .ok (.goto (-27), 3) := by decide +kernel
theorem dX2_namesOn_34 : decode cX2_namesOn 34 = .ok (.iload_n 2, 1) := by decide +kernel
theorem dX2_namesOn_35 : decode cX2_namesOn 35 = .ok (.ireturn, 1) := by decide +kernel
theorem dX2_namesByHand_0 : decode cX2_namesByHand 0 = .ok (.iconst 0, 1) := by decide +kernel
theorem dX2_namesByHand_1 : decode cX2_namesByHand 1 = .ok (.istore_n 2, 1) := by decide +kernel
theorem dX2_namesByHand_2 : decode cX2_namesByHand 2 = .ok (.iconst 0, 1) := by decide +kernel
theorem dX2_namesByHand_3 : decode cX2_namesByHand 3 = .ok (.istore_n 3, 1) := by decide +kernel
theorem dX2_namesByHand_4 : decode cX2_namesByHand 4 = .ok (.iload_n 3, 1) := by decide +kernel
theorem dX2_namesByHand_5 : decode cX2_namesByHand 5 = .ok (.aload_n 0, 1) := by decide +kernel
theorem dX2_namesByHand_6 : decode cX2_namesByHand 6 = .ok (.getfield 49, 3) := by decide +kernel
theorem dX2_namesByHand_9 : decode cX2_namesByHand 9 = .ok (.if_icmp .ge 25, 3) := by decide +kernel
theorem dX2_namesByHand_12 : decode cX2_namesByHand 12 = .ok (.aload_n 0, 1) := by decide +kernel
theorem dX2_namesByHand_13 : decode cX2_namesByHand 13 = .ok (.getfield 24, 3) := by decide +kernel
theorem dX2_namesByHand_16 : decode cX2_namesByHand 16 = .ok (.iload_n 3, 1) := by decide +kernel
theorem dX2_namesByHand_17 : decode cX2_namesByHand 17 = .ok (.iaload, 1) := by decide +kernel
theorem dX2_namesByHand_18 : decode cX2_namesByHand 18 = .ok (.iload_n 1, 1) := by decide +kernel
theorem dX2_namesByHand_19 : decode cX2_namesByHand 19 = .ok (.if_icmp .ne 9, 3) := by decide +kernel
theorem dX2_namesByHand_22 : decode cX2_namesByHand 22 = .ok (.iload_n 2, 1) := by decide +kernel
theorem dX2_namesByHand_23 : decode cX2_namesByHand 23 = .ok (.iconst 1, 1) := by decide +kernel
theorem dX2_namesByHand_24 : decode cX2_namesByHand 24 = .ok (.iload_n 3, 1) := by decide +kernel
theorem dX2_namesByHand_25 : decode cX2_namesByHand 25 = .ok (.ishl, 1) := by decide +kernel
theorem dX2_namesByHand_26 : decode cX2_namesByHand 26 = .ok (.ior, 1) := by decide +kernel
theorem dX2_namesByHand_27 : decode cX2_namesByHand 27 = .ok (.istore_n 2, 1) := by decide +kernel
theorem dX2_namesByHand_28 : decode cX2_namesByHand 28 = .ok (.iinc 3 1, 3) := by decide +kernel
theorem dX2_namesByHand_31 : decode cX2_namesByHand 31 = .ok (.goto (-27), 3) := by decide +kernel
theorem dX2_namesByHand_34 : decode cX2_namesByHand 34 = .ok (.iload_n 2, 1) := by decide +kernel
theorem dX2_namesByHand_35 : decode cX2_namesByHand 35 = .ok (.ireturn, 1) := by decide +kernel
set_option maxRecDepth 20000 in
theorem ggX2_handCount_J6_bitCount_0f7a4 : GoodIn wsX2_handCount wsJ6_bitCount_0f7a4 := goodIn_r _ [6, 7, 8, 9] (by decide +kernel) (by decide +kernel)
set_option maxRecDepth 20000 in
theorem gX2_handCount_J6_bitCount_0f7a4 : GoodIn wsX2_handCount (va_wsS RX2 77 yJ6_bitCount_0f7a4 wsJ6_bitCount_0f7a4) := goodIn_app (goodIn_of _ (by decide +kernel)) ggX2_handCount_J6_bitCount_0f7a4
theorem dX2_handCount_0 : decode cX2_handCount 0 = .ok (.iconst 0, 1) := by decide +kernel
theorem dX2_handCount_1 : decode cX2_handCount 1 = .ok (.istore_n 1, 1) := by decide +kernel
theorem dX2_handCount_2 : decode cX2_handCount 2 = .ok (.iconst 0, 1) := by decide +kernel
theorem dX2_handCount_3 : decode cX2_handCount 3 = .ok (.istore_n 2, 1) := by decide +kernel
theorem dX2_handCount_4 : decode cX2_handCount 4 = .ok (.iload_n 2, 1) := by decide +kernel
theorem dX2_handCount_5 : decode cX2_handCount 5 = .ok (.aload_n 0, 1) := by decide +kernel
theorem dX2_handCount_6 : decode cX2_handCount 6 = .ok (.getfield 49, 3) := by decide +kernel
theorem dX2_handCount_9 : decode cX2_handCount 9 = .ok (.if_icmp .ge 20, 3) := by decide +kernel
theorem dX2_handCount_12 : decode cX2_handCount 12 = .ok (.iload_n 1, 1) := by decide +kernel
theorem dX2_handCount_13 : decode cX2_handCount 13 = .ok (.iconst 1, 1) := by decide +kernel
theorem dX2_handCount_14 : decode cX2_handCount 14 = .ok (.aload_n 0, 1) := by decide +kernel
theorem dX2_handCount_15 : decode cX2_handCount 15 = .ok (.getfield 24, 3) := by decide +kernel
theorem dX2_handCount_18 : decode cX2_handCount 18 = .ok (.iload_n 2, 1) := by decide +kernel
theorem dX2_handCount_19 : decode cX2_handCount 19 = .ok (.iaload, 1) := by decide +kernel
theorem dX2_handCount_20 : decode cX2_handCount 20 = .ok (.ishl, 1) := by decide +kernel
theorem dX2_handCount_21 : decode cX2_handCount 21 = .ok (.ior, 1) := by decide +kernel
theorem dX2_handCount_22 : decode cX2_handCount 22 = .ok (.istore_n 1, 1) := by decide +kernel
theorem dX2_handCount_23 : decode cX2_handCount 23 = .ok (.iinc 2 1, 3) := by decide +kernel
theorem dX2_handCount_26 : decode cX2_handCount 26 = .ok (.goto (-22), 3) := by decide +kernel
theorem dX2_handCount_29 : decode cX2_handCount 29 = .ok (.iload_n 1, 1) := by decide +kernel
theorem dX2_handCount_30 : decode cX2_handCount 30 = .ok (.invokestatic 77, 3) := by decide +kernel
theorem dX2_handCount_33 : decode cX2_handCount 33 = .ok (.ireturn, 1) := by decide +kernel
theorem dX2_wallsInUse_0 : decode cX2_wallsInUse 0 = .ok (.iconst 0, 1) := by decide +kernel
theorem dX2_wallsInUse_1 : decode cX2_wallsInUse 1 = .ok (.istore_n 1, 1) := by decide +kernel
theorem dX2_wallsInUse_2 : decode cX2_wallsInUse 2 = .ok (.iconst 0, 1) := by decide +kernel
theorem dX2_wallsInUse_3 : decode cX2_wallsInUse 3 = .ok (.istore_n 2, 1) := by decide +kernel
theorem dX2_wallsInUse_4 : decode cX2_wallsInUse 4 = .ok (.iload_n 2, 1) := by decide +kernel
theorem dX2_wallsInUse_5 : decode cX2_wallsInUse 5 = .ok (.aload_n 0, 1) := by decide +kernel
theorem dX2_wallsInUse_6 : decode cX2_wallsInUse 6 = .ok (.getfield 49, 3) := by decide +kernel
theorem dX2_wallsInUse_9 : decode cX2_wallsInUse 9 = .ok (.if_icmp .ge 31, 3) := by decide +kernel
theorem dX2_wallsInUse_12 : decode cX2_wallsInUse 12 = .ok (.aload_n 0, 1) := by decide +kernel
theorem dX2_wallsInUse_13 : decode cX2_wallsInUse 13 = .ok (.getfield 30, 3) := by decide +kernel
theorem dX2_wallsInUse_16 : decode cX2_wallsInUse 16 = .ok (.iload_n 2, 1) := by decide +kernel
theorem dX2_wallsInUse_17 : decode cX2_wallsInUse 17 = .ok (.iaload, 1) := by decide +kernel
theorem dX2_wallsInUse_18 : decode cX2_wallsInUse 18 = .ok (.bipush 10, 2) := by decide +kernel
theorem dX2_wallsInUse_20 : decode cX2_wallsInUse 20 = .ok (.if_icmp .eq 14, 3) := by decide +kernel
theorem dX2_wallsInUse_23 : decode cX2_wallsInUse 23 = .ok (.iload_n 1, 1) := by decide +kernel
theorem dX2_wallsInUse_24 : decode cX2_wallsInUse 24 = .ok (.iconst 1, 1) := by decide +kernel
theorem dX2_wallsInUse_25 : decode cX2_wallsInUse 25 = .ok (.aload_n 0, 1) := by decide +kernel
theorem dX2_wallsInUse_26 : decode cX2_wallsInUse 26 = .ok (.getfield 30, 3) := by decide +kernel
theorem dX2_wallsInUse_29 : decode cX2_wallsInUse 29 = .ok (.iload_n 2, 1) := by decide +kernel
theorem dX2_wallsInUse_30 : decode cX2_wallsInUse 30 = .ok (.iaload, 1) := by decide +kernel
theorem dX2_wallsInUse_31 : decode cX2_wallsInUse 31 = .ok (.ishl, 1) := by decide +kernel
theorem dX2_wallsInUse_32 : decode cX2_wallsInUse 32 = .ok (.ior, 1) := by decide +kernel
theorem dX2_wallsInUse_33 : decode cX2_wallsInUse 33 = .ok (.istore_n 1, 1) := by decide +kernel
theorem dX2_wallsInUse_34 : decode cX2_wallsInUse 34 = .ok (.iinc 2 1, 3) := by decide +kernel
theorem dX2_wallsInUse_37 : decode cX2_wallsInUse 37 = .ok (.goto (-33), 3) := by decide +kernel
theorem dX2_wallsInUse_40 : decode cX2_wallsInUse 40 = .ok (.iload_n 1, 1) := by decide +kernel
theorem dX2_wallsInUse_41 : decode cX2_wallsInUse 41 = .ok (.ireturn, 1) := by decide +kernel
theorem dX2_wallsOfGround_0 : decode cX2_wallsOfGround 0 = .ok (.iconst 0, 1) := by decide +kernel
theorem dX2_wallsOfGround_1 : decode cX2_wallsOfGround 1 = .ok (.istore_n 2, 1) := by decide +kernel
theorem dX2_wallsOfGround_2 : decode cX2_wallsOfGround 2 = .ok (.iconst 0, 1) := by decide +kernel
theorem dX2_wallsOfGround_3 : decode cX2_wallsOfGround 3 = .ok (.istore_n 3, 1) := by decide +kernel
theorem dX2_wallsOfGround_4 : decode cX2_wallsOfGround 4 = .ok (.iload_n 3, 1) := by decide +kernel
theorem dX2_wallsOfGround_5 : decode cX2_wallsOfGround 5 = .ok (.bipush 10, 2) := by decide +kernel
theorem dX2_wallsOfGround_7 : decode cX2_wallsOfGround 7 = .ok (.if_icmp .ge 25, 3) := by decide +kernel
theorem dX2_wallsOfGround_10 : decode cX2_wallsOfGround 10 = .ok (.aload_n 0, 1) := by decide +kernel
theorem dX2_wallsOfGround_11 : decode cX2_wallsOfGround 11 = .ok (.getfield 15, 3) := by decide +kernel
theorem dX2_wallsOfGround_14 : decode cX2_wallsOfGround 14 = .ok (.iload_n 3, 1) := by decide +kernel
theorem dX2_wallsOfGround_15 : decode cX2_wallsOfGround 15 = .ok (.iaload, 1) := by decide +kernel
theorem dX2_wallsOfGround_16 : decode cX2_wallsOfGround 16 = .ok (.iload_n 1, 1) := by decide +kernel
theorem dX2_wallsOfGround_17 : decode cX2_wallsOfGround 17 = .ok (.if_icmp .ne 9, 3) := by decide +kernel
theorem dX2_wallsOfGround_20 : decode cX2_wallsOfGround 20 = .ok (.iload_n 2, 1) := by decide +kernel
theorem dX2_wallsOfGround_21 : decode cX2_wallsOfGround 21 = .ok (.iconst 1, 1) := by decide +kernel
theorem dX2_wallsOfGround_22 : decode cX2_wallsOfGround 22 = .ok (.iload_n 3, 1) := by decide +kernel
theorem dX2_wallsOfGround_23 : decode cX2_wallsOfGround 23 = .ok (.ishl, 1) := by decide +kernel
theorem dX2_wallsOfGround_24 : decode cX2_wallsOfGround 24 = .ok (.ior, 1) := by decide +kernel
theorem dX2_wallsOfGround_25 : decode cX2_wallsOfGround 25 = .ok (.istore_n 2, 1) := by decide +kernel
theorem dX2_wallsOfGround_26 : decode cX2_wallsOfGround 26 = .ok (.iinc 3 1, 3) := by decide +kernel
theorem dX2_wallsOfGround_29 : decode cX2_wallsOfGround 29 = .ok (.goto (-25), 3) := by decide +kernel
theorem dX2_wallsOfGround_32 : decode cX2_wallsOfGround 32 = .ok (.iload_n 2, 1) := by decide +kernel
theorem dX2_wallsOfGround_33 : decode cX2_wallsOfGround 33 = .ok (.ireturn, 1) := by decide +kernel
set_option maxRecDepth 20000 in
theorem ggX2_cleanWall_X2_holdsOf : GoodIn wsX2_cleanWall wsX2_holdsOf := goodIn_r _ [11, 12, 4, 5, 13, 14, 15, 16, 10, 17, 2, 3, 25, 26, 27, 28, 29, 30, 31, 32, 33, 34, 35, 36, 37, 38, 39] (by decide +kernel) (by decide +kernel)
set_option maxRecDepth 20000 in
theorem gX2_cleanWall_X2_holdsOf : GoodIn wsX2_cleanWall (wsV RX2 82 RX2 yX2_holdsOf wsX2_holdsOf) := goodIn_app (goodIn_of _ (by decide +kernel)) ggX2_cleanWall_X2_holdsOf
set_option maxRecDepth 20000 in
theorem ggX2_cleanWall_J6_bitCount_0f7a4 : GoodIn wsX2_cleanWall wsJ6_bitCount_0f7a4 := goodIn_r _ [21, 22, 23, 24] (by decide +kernel) (by decide +kernel)
set_option maxRecDepth 20000 in
theorem gX2_cleanWall_J6_bitCount_0f7a4 : GoodIn wsX2_cleanWall (va_wsS RX2 77 yJ6_bitCount_0f7a4 wsJ6_bitCount_0f7a4) := goodIn_app (goodIn_of _ (by decide +kernel)) ggX2_cleanWall_J6_bitCount_0f7a4
theorem dX2_cleanWall_0 : decode cX2_cleanWall 0 = .ok (.aload_n 0, 1) := by decide +kernel
theorem dX2_cleanWall_1 : decode cX2_cleanWall 1 = .ok (.getfield 15, 3) := by decide +kernel
theorem dX2_cleanWall_4 : decode cX2_cleanWall 4 = .ok (.iload_n 1, 1) := by decide +kernel
theorem dX2_cleanWall_5 : decode cX2_cleanWall 5 = .ok (.iaload, 1) := by decide +kernel
theorem dX2_cleanWall_6 : decode cX2_cleanWall 6 = .ok (.iconst 2, 1) := by decide +kernel
theorem dX2_cleanWall_7 : decode cX2_cleanWall 7 = .ok (.if_icmp .ne 7, 3) := by decide +kernel
theorem dX2_cleanWall_10 : decode cX2_cleanWall 10 = .ok (.iconst 1, 1) := by decide +kernel
theorem dX2_cleanWall_11 : decode cX2_cleanWall 11 = .ok (.goto 4, 3) := by decide +kernel
theorem dX2_cleanWall_14 : decode cX2_cleanWall 14 = .ok (.iconst 0, 1) := by decide +kernel
theorem dX2_cleanWall_15 : decode cX2_cleanWall 15 = .ok (.istore_n 2, 1) := by decide +kernel
theorem dX2_cleanWall_16 : decode cX2_cleanWall 16 = .ok (.iconst 0, 1) := by decide +kernel
theorem dX2_cleanWall_17 : decode cX2_cleanWall 17 = .ok (.istore_n 3, 1) := by decide +kernel
theorem dX2_cleanWall_18 : decode cX2_cleanWall 18 = .ok (.iconst 0, 1) := by decide +kernel
theorem dX2_cleanWall_19 : decode cX2_cleanWall 19 = .ok (.istore 4, 2) := by decide +kernel
theorem dX2_cleanWall_21 : decode cX2_cleanWall 21 = .ok (.iload 4, 2) := by decide +kernel
theorem dX2_cleanWall_23 : decode cX2_cleanWall 23 = .ok (.aload_n 0, 1) := by decide +kernel
theorem dX2_cleanWall_24 : decode cX2_cleanWall 24 = .ok (.getfield 49, 3) := by decide +kernel
theorem dX2_cleanWall_27 : decode cX2_cleanWall 27 = .ok (.if_icmp .ge 60, 3) := by decide +kernel
theorem dX2_cleanWall_30 : decode cX2_cleanWall 30 = .ok (.aload_n 0, 1) := by decide +kernel
theorem dX2_cleanWall_31 : decode cX2_cleanWall 31 = .ok (.getfield 30, 3) := by decide +kernel
theorem dX2_cleanWall_34 : decode cX2_cleanWall 34 = .ok (.iload 4, 2) := by decide +kernel
theorem dX2_cleanWall_36 : decode cX2_cleanWall 36 = .ok (.iaload, 1) := by decide +kernel
theorem dX2_cleanWall_37 : decode cX2_cleanWall 37 = .ok (.iload_n 1, 1) := by decide +kernel
theorem dX2_cleanWall_38 : decode cX2_cleanWall 38 = .ok (.if_icmp .ne 43, 3) := by decide +kernel
theorem dX2_cleanWall_41 : decode cX2_cleanWall 41 = .ok (.iload_n 2, 1) := by decide +kernel
theorem dX2_cleanWall_42 : decode cX2_cleanWall 42 = .ok (.ifCond .eq 17, 3) := by decide +kernel
theorem dX2_cleanWall_45 : decode cX2_cleanWall 45 = .ok (.aload_n 0, 1) := by decide +kernel
theorem dX2_cleanWall_46 : decode cX2_cleanWall 46 = .ok (.getfield 21, 3) := by decide +kernel
theorem dX2_cleanWall_49 : decode cX2_cleanWall 49 = .ok (.iload 4, 2) := by decide +kernel
theorem dX2_cleanWall_51 : decode cX2_cleanWall 51 = .ok (.iaload, 1) := by decide +kernel
theorem dX2_cleanWall_52 : decode cX2_cleanWall 52 = .ok (.iconst 5, 1) := by decide +kernel
theorem dX2_cleanWall_53 : decode cX2_cleanWall 53 = .ok (.if_icmp .eq 28, 3) := by decide +kernel
theorem dX2_cleanWall_56 : decode cX2_cleanWall 56 = .ok (.goto 18, 3) := by decide +kernel
theorem dX2_cleanWall_59 : decode cX2_cleanWall 59 = .ok (.aload_n 0, 1) := by decide +kernel
theorem dX2_cleanWall_60 : decode cX2_cleanWall 60 = .ok (.iload 4, 2) := by decide +kernel
theorem dX2_cleanWall_62 : decode cX2_cleanWall 62 = .ok (.invokevirtual 82, 3) := by decide +kernel
theorem dX2_cleanWall_65 : decode cX2_cleanWall 65 = .ok (.aload_n 0, 1) := by decide +kernel
theorem dX2_cleanWall_66 : decode cX2_cleanWall 66 = .ok (.getfield 9, 3) := by decide +kernel
theorem dX2_cleanWall_69 : decode cX2_cleanWall 69 = .ok (.iconst 2, 1) := by decide +kernel
theorem dX2_cleanWall_70 : decode cX2_cleanWall 70 = .ok (.iaload, 1) := by decide +kernel
theorem dX2_cleanWall_71 : decode cX2_cleanWall 71 = .ok (.if_icmp .gt 10, 3) := by decide +kernel
theorem dX2_cleanWall_74 : decode cX2_cleanWall 74 = .ok (.iload_n 3, 1) := by decide +kernel
theorem dX2_cleanWall_75 : decode cX2_cleanWall 75 = .ok (.iconst 1, 1) := by decide +kernel
theorem dX2_cleanWall_76 : decode cX2_cleanWall 76 = .ok (.iload 4, 2) := by decide +kernel
theorem dX2_cleanWall_78 : decode cX2_cleanWall 78 = .ok (.ishl, 1) := by decide +kernel
theorem dX2_cleanWall_79 : decode cX2_cleanWall 79 = .ok (.ior, 1) := by decide +kernel
theorem dX2_cleanWall_80 : decode cX2_cleanWall 80 = .ok (.istore_n 3, 1) := by decide +kernel
theorem dX2_cleanWall_81 : decode cX2_cleanWall 81 = .ok (.iinc 4 1, 3) := by decide +kernel
theorem dX2_cleanWall_84 : decode cX2_cleanWall 84 = .ok (.goto (-63), 3) := by decide +kernel
theorem dX2_cleanWall_87 : decode cX2_cleanWall 87 = .ok (.iconst 0, 1) := by decide +kernel
theorem dX2_cleanWall_88 : decode cX2_cleanWall 88 = .ok (.istore 4, 2) := by decide +kernel
theorem dX2_cleanWall_90 : decode cX2_cleanWall 90 = .ok (.iload 4, 2) := by decide +kernel
theorem dX2_cleanWall_92 : decode cX2_cleanWall 92 = .ok (.aload_n 0, 1) := by decide +kernel
theorem dX2_cleanWall_93 : decode cX2_cleanWall 93 = .ok (.getfield 49, 3) := by decide +kernel
theorem dX2_cleanWall_96 : decode cX2_cleanWall 96 = .ok (.if_icmp .ge 35, 3) := by decide +kernel
theorem dX2_cleanWall_99 : decode cX2_cleanWall 99 = .ok (.iload_n 3, 1) := by decide +kernel
theorem dX2_cleanWall_100 : decode cX2_cleanWall 100 = .ok (.iload 4, 2) := by decide +kernel
theorem dX2_cleanWall_102 : decode cX2_cleanWall 102 = .ok (.ishr, 1) := by decide +kernel
theorem dX2_cleanWall_103 : decode cX2_cleanWall 103 = .ok (.iconst 1, 1) := by decide +kernel
theorem dX2_cleanWall_104 : decode cX2_cleanWall 104 = .ok (.iand, 1) := by decide +kernel
theorem dX2_cleanWall_105 : decode cX2_cleanWall 105 = .ok (.ifCond .eq 20, 3) := by decide +kernel
theorem dX2_cleanWall_108 : decode cX2_cleanWall 108 = .ok (.aload_n 0, 1) := by decide +kernel
theorem dX2_cleanWall_109 : decode cX2_cleanWall 109 = .ok (.getfield 30, 3) := by decide +kernel
theorem dX2_cleanWall_112 : decode cX2_cleanWall 112 = .ok (.iload 4, 2) := by decide +kernel
theorem dX2_cleanWall_114 : decode cX2_cleanWall 114 = .ok (.bipush 10, 2) := by decide +kernel
theorem dX2_cleanWall_116 : decode cX2_cleanWall 116 = .ok (.iastore, 1) := by decide +kernel
theorem dX2_cleanWall_117 : decode cX2_cleanWall 117 = .ok (.aload_n 0, 1) := by decide +kernel
theorem dX2_cleanWall_118 : decode cX2_cleanWall 118 = .ok (.getfield 33, 3) := by decide +kernel
theorem dX2_cleanWall_121 : decode cX2_cleanWall 121 = .ok (.iload 4, 2) := by decide +kernel
theorem dX2_cleanWall_123 : decode cX2_cleanWall 123 = .ok (.iconst 0, 1) := by decide +kernel
theorem dX2_cleanWall_124 : decode cX2_cleanWall 124 = .ok (.iastore, 1) := by decide +kernel
theorem dX2_cleanWall_125 : decode cX2_cleanWall 125 = .ok (.iinc 4 1, 3) := by decide +kernel
theorem dX2_cleanWall_128 : decode cX2_cleanWall 128 = .ok (.goto (-38), 3) := by decide +kernel
theorem dX2_cleanWall_131 : decode cX2_cleanWall 131 = .ok (.iload_n 2, 1) := by decide +kernel
theorem dX2_cleanWall_132 : decode cX2_cleanWall 132 = .ok (.ifCond .ne 10, 3) := by decide +kernel
theorem dX2_cleanWall_135 : decode cX2_cleanWall 135 = .ok (.aload_n 0, 1) := by decide +kernel
theorem dX2_cleanWall_136 : decode cX2_cleanWall 136 = .ok (.getfield 15, 3) := by decide +kernel
theorem dX2_cleanWall_139 : decode cX2_cleanWall 139 = .ok (.iload_n 1, 1) := by decide +kernel
theorem dX2_cleanWall_140 : decode cX2_cleanWall 140 = .ok (.iconst 1, 1) := by decide +kernel
theorem dX2_cleanWall_141 : decode cX2_cleanWall 141 = .ok (.iastore, 1) := by decide +kernel
theorem dX2_cleanWall_142 : decode cX2_cleanWall 142 = .ok (.iload_n 3, 1) := by decide +kernel
theorem dX2_cleanWall_143 : decode cX2_cleanWall 143 = .ok (.invokestatic 77, 3) := by decide +kernel
theorem dX2_cleanWall_146 : decode cX2_cleanWall 146 = .ok (.ireturn, 1) := by decide +kernel
set_option maxRecDepth 20000 in
theorem ggX2_passNight_X2_comeBack : GoodIn wsX2_passNight wsX2_comeBack := goodIn_r _ [14, 15, 16, 17, 5, 6, 7, 8, 18, 2, 19, 20, 21, 22, 13, 23, 24, 71, 72, 73, 74, 75, 76, 77, 78, 79, 80, 81, 82, 83, 84, 85] (by decide +kernel) (by decide +kernel)
set_option maxRecDepth 20000 in
theorem gX2_passNight_X2_comeBack : GoodIn wsX2_passNight (wsV RX2 85 RX2 yX2_comeBack wsX2_comeBack) := goodIn_app (goodIn_of _ (by decide +kernel)) ggX2_passNight_X2_comeBack
set_option maxRecDepth 20000 in
theorem ggX2_passNight_X2_growAll : GoodIn wsX2_passNight wsX2_growAll := goodIn_r _ [28, 15, 16, 19, 29, 30, 31, 32, 13, 33, 34, 1, 24, 35, 36, 37, 38, 39, 40, 41, 42, 6, 7, 8, 43, 44, 45, 71, 72, 73, 74, 75, 76, 77, 78, 79, 80, 81, 82, 83, 84, 85] (by decide +kernel) (by decide +kernel)
set_option maxRecDepth 20000 in
theorem gX2_passNight_X2_growAll : GoodIn wsX2_passNight (wsV RX2 88 RX2 yX2_growAll wsX2_growAll) := goodIn_app (goodIn_of _ (by decide +kernel)) ggX2_passNight_X2_growAll
set_option maxRecDepth 20000 in
theorem ggX2_passNight_X2_busiestWall : GoodIn wsX2_passNight wsX2_busiestWall := goodIn_r _ [49, 50, 15, 16, 51, 19, 71, 72, 73, 74, 75, 76, 77, 78, 79, 80, 81, 82, 83, 84, 85] (by decide +kernel) (by decide +kernel)
set_option maxRecDepth 20000 in
theorem gX2_passNight_X2_busiestWall : GoodIn wsX2_passNight (wsV RX2 91 RX2 yX2_busiestWall wsX2_busiestWall) := goodIn_app (goodIn_of _ (by decide +kernel)) ggX2_passNight_X2_busiestWall
set_option maxRecDepth 20000 in
theorem ggX2_passNight_X2_cleanWall : GoodIn wsX2_passNight wsX2_cleanWall := goodIn_r _ [55, 34, 15, 16, 24, 1, 17, 56, 57, 58, 13, 59, 19, 18, 35, 36, 37, 38, 60, 61, 62, 63, 64, 65, 66, 71, 72, 73, 74, 75, 76, 77, 78, 79, 80, 81, 82, 83, 84, 85] (by decide +kernel) (by decide +kernel)
set_option maxRecDepth 20000 in
theorem gX2_passNight_X2_cleanWall : GoodIn wsX2_passNight (wsV RX2 95 RX2 yX2_cleanWall wsX2_cleanWall) := goodIn_app (goodIn_of _ (by decide +kernel)) ggX2_passNight_X2_cleanWall
set_option maxRecDepth 20000 in
theorem ggX2_passNight_X2_looksOfAll : GoodIn wsX2_passNight wsX2_looksOfAll := goodIn_r _ [70, 15, 16, 51, 19, 71, 72, 73, 74, 75, 76, 77, 78, 79, 80, 81, 82, 83, 84, 85] (by decide +kernel) (by decide +kernel)
set_option maxRecDepth 20000 in
theorem gX2_passNight_X2_looksOfAll : GoodIn wsX2_passNight (wsV RX2 98 RX2 yX2_looksOfAll wsX2_looksOfAll) := goodIn_app (goodIn_of _ (by decide +kernel)) ggX2_passNight_X2_looksOfAll
theorem dX2_passNight_0 : decode cX2_passNight 0 = .ok (.aload_n 0, 1) := by decide +kernel
theorem dX2_passNight_1 : decode cX2_passNight 1 = .ok (.invokevirtual 85, 3) := by decide +kernel
theorem dX2_passNight_4 : decode cX2_passNight 4 = .ok (.aload_n 0, 1) := by decide +kernel
theorem dX2_passNight_5 : decode cX2_passNight 5 = .ok (.invokevirtual 88, 3) := by decide +kernel
theorem dX2_passNight_8 : decode cX2_passNight 8 = .ok (.iconst 0, 1) := by decide +kernel
theorem dX2_passNight_9 : decode cX2_passNight 9 = .ok (.istore_n 1, 1) := by decide +kernel
theorem dX2_passNight_10 : decode cX2_passNight 10 = .ok (.iload_n 1, 1) := by decide +kernel
theorem dX2_passNight_11 : decode cX2_passNight 11 = .ok (.aload_n 0, 1) := by decide +kernel
theorem dX2_passNight_12 : decode cX2_passNight 12 = .ok (.getfield 9, 3) := by decide +kernel
theorem dX2_passNight_15 : decode cX2_passNight 15 = .ok (.iconst 0, 1) := by decide +kernel
theorem dX2_passNight_16 : decode cX2_passNight 16 = .ok (.iaload, 1) := by decide +kernel
theorem dX2_passNight_17 : decode cX2_passNight 17 = .ok (.if_icmp .ge 27, 3) := by decide +kernel
theorem dX2_passNight_20 : decode cX2_passNight 20 = .ok (.aload_n 0, 1) := by decide +kernel
theorem dX2_passNight_21 : decode cX2_passNight 21 = .ok (.invokevirtual 91, 3) := by decide +kernel
theorem dX2_passNight_24 : decode cX2_passNight 24 = .ok (.istore_n 2, 1) := by decide +kernel
theorem dX2_passNight_25 : decode cX2_passNight 25 = .ok (.iload_n 2, 1) := by decide +kernel
theorem dX2_passNight_26 : decode cX2_passNight 26 = .ok (.ifCond .ge 6, 3) := by decide +kernel
theorem dX2_passNight_29 : decode cX2_passNight 29 = .ok (.goto 15, 3) := by decide +kernel
theorem dX2_passNight_32 : decode cX2_passNight 32 = .ok (.aload_n 0, 1) := by decide +kernel
theorem dX2_passNight_33 : decode cX2_passNight 33 = .ok (.iload_n 2, 1) := by decide +kernel
theorem dX2_passNight_34 : decode cX2_passNight 34 = .ok (.invokevirtual 95, 3) := by decide +kernel
theorem dX2_passNight_37 : decode cX2_passNight 37 = .ok (.pop, 1) := by decide +kernel
theorem dX2_passNight_38 : decode cX2_passNight 38 = .ok (.iinc 1 1, 3) := by decide +kernel
theorem dX2_passNight_41 : decode cX2_passNight 41 = .ok (.goto (-31), 3) := by decide +kernel
theorem dX2_passNight_44 : decode cX2_passNight 44 = .ok (.aload_n 0, 1) := by decide +kernel
theorem dX2_passNight_45 : decode cX2_passNight 45 = .ok (.dup, 1) := by decide +kernel
theorem dX2_passNight_46 : decode cX2_passNight 46 = .ok (.getfield 52, 3) := by decide +kernel
theorem dX2_passNight_49 : decode cX2_passNight 49 = .ok (.iconst 1, 1) := by decide +kernel
theorem dX2_passNight_50 : decode cX2_passNight 50 = .ok (.iadd, 1) := by decide +kernel
theorem dX2_passNight_51 : decode cX2_passNight 51 = .ok (.putfield 52, 3) := by decide +kernel
theorem dX2_passNight_54 : decode cX2_passNight 54 = .ok (.aload_n 0, 1) := by decide +kernel
theorem dX2_passNight_55 : decode cX2_passNight 55 = .ok (.invokevirtual 98, 3) := by decide +kernel
theorem dX2_passNight_58 : decode cX2_passNight 58 = .ok (.istore_n 1, 1) := by decide +kernel
theorem dX2_passNight_59 : decode cX2_passNight 59 = .ok (.aload_n 0, 1) := by decide +kernel
theorem dX2_passNight_60 : decode cX2_passNight 60 = .ok (.ldc 101, 2) := by decide +kernel
theorem dX2_passNight_62 : decode cX2_passNight 62 = .ok (.aload_n 0, 1) := by decide +kernel
theorem dX2_passNight_63 : decode cX2_passNight 63 = .ok (.getfield 55, 3) := by decide +kernel
theorem dX2_passNight_66 : decode cX2_passNight 66 = .ok (.iload_n 1, 1) := by decide +kernel
theorem dX2_passNight_67 : decode cX2_passNight 67 = .ok (.iadd, 1) := by decide +kernel
theorem dX2_passNight_68 : decode cX2_passNight 68 = .ok (.invokestatic 102, 3) := by decide +kernel
theorem dX2_passNight_71 : decode cX2_passNight 71 = .ok (.putfield 55, 3) := by decide +kernel
theorem dX2_passNight_74 : decode cX2_passNight 74 = .ok (.aload_n 0, 1) := by decide +kernel
theorem dX2_passNight_75 : decode cX2_passNight 75 = .ok (.dup, 1) := by decide +kernel
theorem dX2_passNight_76 : decode cX2_passNight 76 = .ok (.getfield 58, 3) := by decide +kernel
theorem dX2_passNight_79 : decode cX2_passNight 79 = .ok (.iload_n 1, 1) := by decide +kernel
theorem dX2_passNight_80 : decode cX2_passNight 80 = .ok (.iadd, 1) := by decide +kernel
theorem dX2_passNight_81 : decode cX2_passNight 81 = .ok (.putfield 58, 3) := by decide +kernel
theorem dX2_passNight_84 : decode cX2_passNight 84 = .ok (.return_, 1) := by decide +kernel
set_option maxRecDepth 20000 in
theorem ggX2_comeBack_X2_backOf : GoodIn wsX2_comeBack wsX2_backOf := goodIn_r _ [15, 16, 8, 17, 18, 19, 20, 21, 22, 23, 24, 25, 26, 27, 28, 29, 30, 31] (by decide +kernel) (by decide +kernel)
set_option maxRecDepth 20000 in
theorem gX2_comeBack_X2_backOf : GoodIn wsX2_comeBack (wsV RX2 108 RX2 yX2_backOf wsX2_backOf) := goodIn_app (goodIn_of _ (by decide +kernel)) ggX2_comeBack_X2_backOf
theorem dX2_comeBack_0 : decode cX2_comeBack 0 = .ok (.iconst 0, 1) := by decide +kernel
theorem dX2_comeBack_1 : decode cX2_comeBack 1 = .ok (.istore_n 1, 1) := by decide +kernel
theorem dX2_comeBack_2 : decode cX2_comeBack 2 = .ok (.iload_n 1, 1) := by decide +kernel
theorem dX2_comeBack_3 : decode cX2_comeBack 3 = .ok (.aload_n 0, 1) := by decide +kernel
theorem dX2_comeBack_4 : decode cX2_comeBack 4 = .ok (.getfield 49, 3) := by decide +kernel
theorem dX2_comeBack_7 : decode cX2_comeBack 7 = .ok (.if_icmp .ge 87, 3) := by decide +kernel
theorem dX2_comeBack_10 : decode cX2_comeBack 10 = .ok (.aload_n 0, 1) := by decide +kernel
theorem dX2_comeBack_11 : decode cX2_comeBack 11 = .ok (.getfield 30, 3) := by decide +kernel
theorem dX2_comeBack_14 : decode cX2_comeBack 14 = .ok (.iload_n 1, 1) := by decide +kernel
theorem dX2_comeBack_15 : decode cX2_comeBack 15 = .ok (.iaload, 1) := by decide +kernel
theorem dX2_comeBack_16 : decode cX2_comeBack 16 = .ok (.bipush 10, 2) := by decide +kernel
theorem dX2_comeBack_18 : decode cX2_comeBack 18 = .ok (.if_icmp .ne 70, 3) := by decide +kernel
theorem dX2_comeBack_21 : decode cX2_comeBack 21 = .ok (.aload_n 0, 1) := by decide +kernel
theorem dX2_comeBack_22 : decode cX2_comeBack 22 = .ok (.getfield 33, 3) := by decide +kernel
theorem dX2_comeBack_25 : decode cX2_comeBack 25 = .ok (.iload_n 1, 1) := by decide +kernel
theorem dX2_comeBack_26 : decode cX2_comeBack 26 = .ok (.bipush 99, 2) := by decide +kernel
theorem dX2_comeBack_28 : decode cX2_comeBack 28 = .ok (.aload_n 0, 1) := by decide +kernel
theorem dX2_comeBack_29 : decode cX2_comeBack 29 = .ok (.getfield 33, 3) := by decide +kernel
theorem dX2_comeBack_32 : decode cX2_comeBack 32 = .ok (.iload_n 1, 1) := by decide +kernel
theorem dX2_comeBack_33 : decode cX2_comeBack 33 = .ok (.iaload, 1) := by decide +kernel
theorem dX2_comeBack_34 : decode cX2_comeBack 34 = .ok (.iconst 1, 1) := by decide +kernel
theorem dX2_comeBack_35 : decode cX2_comeBack 35 = .ok (.iadd, 1) := by decide +kernel
theorem dX2_comeBack_36 : decode cX2_comeBack 36 = .ok (.invokestatic 102, 3) := by decide +kernel
theorem dX2_comeBack_39 : decode cX2_comeBack 39 = .ok (.iastore, 1) := by decide +kernel
theorem dX2_comeBack_40 : decode cX2_comeBack 40 = .ok (.aload_n 0, 1) := by decide +kernel
theorem dX2_comeBack_41 : decode cX2_comeBack 41 = .ok (.getfield 33, 3) := by decide +kernel
theorem dX2_comeBack_44 : decode cX2_comeBack 44 = .ok (.iload_n 1, 1) := by decide +kernel
theorem dX2_comeBack_45 : decode cX2_comeBack 45 = .ok (.iaload, 1) := by decide +kernel
theorem dX2_comeBack_46 : decode cX2_comeBack 46 = .ok (.aload_n 0, 1) := by decide +kernel
theorem dX2_comeBack_47 : decode cX2_comeBack 47 = .ok (.iload_n 1, 1) := by decide +kernel
theorem dX2_comeBack_48 : decode cX2_comeBack 48 = .ok (.invokevirtual 108, 3) := by decide +kernel
theorem dX2_comeBack_51 : decode cX2_comeBack 51 = .ok (.if_icmp .lt 37, 3) := by decide +kernel
theorem dX2_comeBack_54 : decode cX2_comeBack 54 = .ok (.aload_n 0, 1) := by decide +kernel
theorem dX2_comeBack_55 : decode cX2_comeBack 55 = .ok (.getfield 30, 3) := by decide +kernel
theorem dX2_comeBack_58 : decode cX2_comeBack 58 = .ok (.iload_n 1, 1) := by decide +kernel
theorem dX2_comeBack_59 : decode cX2_comeBack 59 = .ok (.aload_n 0, 1) := by decide +kernel
theorem dX2_comeBack_60 : decode cX2_comeBack 60 = .ok (.getfield 24, 3) := by decide +kernel
theorem dX2_comeBack_63 : decode cX2_comeBack 63 = .ok (.iload_n 1, 1) := by decide +kernel
theorem dX2_comeBack_64 : decode cX2_comeBack 64 = .ok (.iaload, 1) := by decide +kernel
theorem dX2_comeBack_65 : decode cX2_comeBack 65 = .ok (.aload_n 0, 1) := by decide +kernel
theorem dX2_comeBack_66 : decode cX2_comeBack 66 = .ok (.getfield 52, 3) := by decide +kernel
theorem dX2_comeBack_69 : decode cX2_comeBack 69 = .ok (.iadd, 1) := by decide +kernel
theorem dX2_comeBack_70 : decode cX2_comeBack 70 = .ok (.bipush 10, 2) := by decide +kernel
theorem dX2_comeBack_72 : decode cX2_comeBack 72 = .ok (.irem, 1) := by decide +kernel
theorem dX2_comeBack_73 : decode cX2_comeBack 73 = .ok (.iastore, 1) := by decide +kernel
theorem dX2_comeBack_74 : decode cX2_comeBack 74 = .ok (.aload_n 0, 1) := by decide +kernel
theorem dX2_comeBack_75 : decode cX2_comeBack 75 = .ok (.getfield 33, 3) := by decide +kernel
theorem dX2_comeBack_78 : decode cX2_comeBack 78 = .ok (.iload_n 1, 1) := by decide +kernel
theorem dX2_comeBack_79 : decode cX2_comeBack 79 = .ok (.iconst 0, 1) := by decide +kernel
theorem dX2_comeBack_80 : decode cX2_comeBack 80 = .ok (.iastore, 1) := by decide +kernel
theorem dX2_comeBack_81 : decode cX2_comeBack 81 = .ok (.aload_n 0, 1) := by decide +kernel
theorem dX2_comeBack_82 : decode cX2_comeBack 82 = .ok (.getfield 27, 3) := by decide +kernel
theorem dX2_comeBack_85 : decode cX2_comeBack 85 = .ok (.iload_n 1, 1) := by decide +kernel
theorem dX2_comeBack_86 : decode cX2_comeBack 86 = .ok (.iconst 5, 1) := by decide +kernel
theorem dX2_comeBack_87 : decode cX2_comeBack 87 = .ok (.iastore, 1) := by decide +kernel
theorem dX2_comeBack_88 : decode cX2_comeBack 88 = .ok (.iinc 1 1, 3) := by decide +kernel
theorem dX2_comeBack_91 : decode cX2_comeBack 91 = .ok (.goto (-89), 3) := by decide +kernel
theorem dX2_comeBack_94 : decode cX2_comeBack 94 = .ok (.return_, 1) := by decide +kernel
set_option maxRecDepth 20000 in
theorem ggX2_growAll_X2_growsOf : GoodIn wsX2_growAll wsX2_growsOf := goodIn_r _ [9, 2, 10, 11, 12, 13, 14, 15, 8, 16, 1, 27, 28, 29, 30, 31, 32, 33, 34, 35, 36, 37, 38, 39, 40, 41] (by decide +kernel) (by decide +kernel)
set_option maxRecDepth 20000 in
theorem gX2_growAll_X2_growsOf : GoodIn wsX2_growAll (wsV RX2 111 RX2 yX2_growsOf wsX2_growsOf) := goodIn_app (goodIn_of _ (by decide +kernel)) ggX2_growAll_X2_growsOf
set_option maxRecDepth 20000 in
theorem ggX2_growAll_X4_heldSize : GoodIn wsX2_growAll wsX4_heldSize := goodIn_r _ [19, 20, 21, 22, 23, 24, 25, 26] (by decide +kernel) (by decide +kernel)
set_option maxRecDepth 20000 in
theorem gX2_growAll_X4_heldSize_n114 : GoodIn wsX2_growAll (wsX4_heldSize) := ggX2_growAll_X4_heldSize
theorem dX2_growAll_0 : decode cX2_growAll 0 = .ok (.iconst 0, 1) := by decide +kernel
theorem dX2_growAll_1 : decode cX2_growAll 1 = .ok (.istore_n 1, 1) := by decide +kernel
theorem dX2_growAll_2 : decode cX2_growAll 2 = .ok (.iload_n 1, 1) := by decide +kernel
theorem dX2_growAll_3 : decode cX2_growAll 3 = .ok (.aload_n 0, 1) := by decide +kernel
theorem dX2_growAll_4 : decode cX2_growAll 4 = .ok (.getfield 49, 3) := by decide +kernel
theorem dX2_growAll_7 : decode cX2_growAll 7 = .ok (.if_icmp .ge 58, 3) := by decide +kernel
theorem dX2_growAll_10 : decode cX2_growAll 10 = .ok (.aload_n 0, 1) := by decide +kernel
theorem dX2_growAll_11 : decode cX2_growAll 11 = .ok (.getfield 30, 3) := by decide +kernel
theorem dX2_growAll_14 : decode cX2_growAll 14 = .ok (.iload_n 1, 1) := by decide +kernel
theorem dX2_growAll_15 : decode cX2_growAll 15 = .ok (.iaload, 1) := by decide +kernel
theorem dX2_growAll_16 : decode cX2_growAll 16 = .ok (.bipush 10, 2) := by decide +kernel
theorem dX2_growAll_18 : decode cX2_growAll 18 = .ok (.if_icmp .eq 41, 3) := by decide +kernel
theorem dX2_growAll_21 : decode cX2_growAll 21 = .ok (.aload_n 0, 1) := by decide +kernel
theorem dX2_growAll_22 : decode cX2_growAll 22 = .ok (.getfield 27, 3) := by decide +kernel
theorem dX2_growAll_25 : decode cX2_growAll 25 = .ok (.iload_n 1, 1) := by decide +kernel
theorem dX2_growAll_26 : decode cX2_growAll 26 = .ok (.aload_n 0, 1) := by decide +kernel
theorem dX2_growAll_27 : decode cX2_growAll 27 = .ok (.getfield 27, 3) := by decide +kernel
theorem dX2_growAll_30 : decode cX2_growAll 30 = .ok (.iload_n 1, 1) := by decide +kernel
theorem dX2_growAll_31 : decode cX2_growAll 31 = .ok (.iaload, 1) := by decide +kernel
theorem dX2_growAll_32 : decode cX2_growAll 32 = .ok (.aload_n 0, 1) := by decide +kernel
theorem dX2_growAll_33 : decode cX2_growAll 33 = .ok (.iload_n 1, 1) := by decide +kernel
theorem dX2_growAll_34 : decode cX2_growAll 34 = .ok (.invokevirtual 111, 3) := by decide +kernel
theorem dX2_growAll_37 : decode cX2_growAll 37 = .ok (.iadd, 1) := by decide +kernel
theorem dX2_growAll_38 : decode cX2_growAll 38 = .ok (.invokestatic 114, 3) := by decide +kernel
theorem dX2_growAll_41 : decode cX2_growAll 41 = .ok (.iastore, 1) := by decide +kernel
theorem dX2_growAll_42 : decode cX2_growAll 42 = .ok (.aload_n 0, 1) := by decide +kernel
theorem dX2_growAll_43 : decode cX2_growAll 43 = .ok (.dup, 1) := by decide +kernel
theorem dX2_growAll_44 : decode cX2_growAll 44 = .ok (.getfield 61, 3) := by decide +kernel
theorem dX2_growAll_47 : decode cX2_growAll 47 = .ok (.iconst 1, 1) := by decide +kernel
theorem dX2_growAll_48 : decode cX2_growAll 48 = .ok (.aload_n 0, 1) := by decide +kernel
theorem dX2_growAll_49 : decode cX2_growAll 49 = .ok (.getfield 30, 3) := by decide +kernel
theorem dX2_growAll_52 : decode cX2_growAll 52 = .ok (.iload_n 1, 1) := by decide +kernel
theorem dX2_growAll_53 : decode cX2_growAll 53 = .ok (.iaload, 1) := by decide +kernel
theorem dX2_growAll_54 : decode cX2_growAll 54 = .ok (.ishl, 1) := by decide +kernel
theorem dX2_growAll_55 : decode cX2_growAll 55 = .ok (.ior, 1) := by decide +kernel
theorem dX2_growAll_56 : decode cX2_growAll 56 = .ok (.putfield 61, 3) := by decide +kernel
theorem dX2_growAll_59 : decode cX2_growAll 59 = .ok (.iinc 1 1, 3) := by decide +kernel
theorem dX2_growAll_62 : decode cX2_growAll 62 = .ok (.goto (-60), 3) := by decide +kernel
theorem dX2_growAll_65 : decode cX2_growAll 65 = .ok (.return_, 1) := by decide +kernel
theorem dX2_busiestWall_0 : decode cX2_busiestWall 0 = .ok (.iconst 0, 1) := by decide +kernel
theorem dX2_busiestWall_1 : decode cX2_busiestWall 1 = .ok (.istore_n 1, 1) := by decide +kernel
theorem dX2_busiestWall_2 : decode cX2_busiestWall 2 = .ok (.iload_n 1, 1) := by decide +kernel
theorem dX2_busiestWall_3 : decode cX2_busiestWall 3 = .ok (.bipush 10, 2) := by decide +kernel
theorem dX2_busiestWall_5 : decode cX2_busiestWall 5 = .ok (.if_icmp .ge 16, 3) := by decide +kernel
theorem dX2_busiestWall_8 : decode cX2_busiestWall 8 = .ok (.aload_n 0, 1) := by decide +kernel
theorem dX2_busiestWall_9 : decode cX2_busiestWall 9 = .ok (.getfield 40, 3) := by decide +kernel
theorem dX2_busiestWall_12 : decode cX2_busiestWall 12 = .ok (.iload_n 1, 1) := by decide +kernel
theorem dX2_busiestWall_13 : decode cX2_busiestWall 13 = .ok (.iconst 0, 1) := by decide +kernel
theorem dX2_busiestWall_14 : decode cX2_busiestWall 14 = .ok (.iastore, 1) := by decide +kernel
theorem dX2_busiestWall_15 : decode cX2_busiestWall 15 = .ok (.iinc 1 1, 3) := by decide +kernel
theorem dX2_busiestWall_18 : decode cX2_busiestWall 18 = .ok (.goto (-16), 3) := by decide +kernel
theorem dX2_busiestWall_21 : decode cX2_busiestWall 21 = .ok (.iconst 0, 1) := by decide +kernel
theorem dX2_busiestWall_22 : decode cX2_busiestWall 22 = .ok (.istore_n 1, 1) := by decide +kernel
theorem dX2_busiestWall_23 : decode cX2_busiestWall 23 = .ok (.iload_n 1, 1) := by decide +kernel
theorem dX2_busiestWall_24 : decode cX2_busiestWall 24 = .ok (.aload_n 0, 1) := by decide +kernel
theorem dX2_busiestWall_25 : decode cX2_busiestWall 25 = .ok (.getfield 49, 3) := by decide +kernel
theorem dX2_busiestWall_28 : decode cX2_busiestWall 28 = .ok (.if_icmp .ge 52, 3) := by decide +kernel
theorem dX2_busiestWall_31 : decode cX2_busiestWall 31 = .ok (.aload_n 0, 1) := by decide +kernel
theorem dX2_busiestWall_32 : decode cX2_busiestWall 32 = .ok (.getfield 30, 3) := by decide +kernel
theorem dX2_busiestWall_35 : decode cX2_busiestWall 35 = .ok (.iload_n 1, 1) := by decide +kernel
theorem dX2_busiestWall_36 : decode cX2_busiestWall 36 = .ok (.iaload, 1) := by decide +kernel
theorem dX2_busiestWall_37 : decode cX2_busiestWall 37 = .ok (.bipush 10, 2) := by decide +kernel
theorem dX2_busiestWall_39 : decode cX2_busiestWall 39 = .ok (.if_icmp .eq 35, 3) := by decide +kernel
theorem dX2_busiestWall_42 : decode cX2_busiestWall 42 = .ok (.aload_n 0, 1) := by decide +kernel
theorem dX2_busiestWall_43 : decode cX2_busiestWall 43 = .ok (.getfield 40, 3) := by decide +kernel
theorem dX2_busiestWall_46 : decode cX2_busiestWall 46 = .ok (.aload_n 0, 1) := by decide +kernel
theorem dX2_busiestWall_47 : decode cX2_busiestWall 47 = .ok (.getfield 30, 3) := by decide +kernel
theorem dX2_busiestWall_50 : decode cX2_busiestWall 50 = .ok (.iload_n 1, 1) := by decide +kernel
theorem dX2_busiestWall_51 : decode cX2_busiestWall 51 = .ok (.iaload, 1) := by decide +kernel
theorem dX2_busiestWall_52 : decode cX2_busiestWall 52 = .ok (.dup2, 1) := by decide +kernel
theorem dX2_busiestWall_53 : decode cX2_busiestWall 53 = .ok (.iaload, 1) := by decide +kernel
theorem dX2_busiestWall_54 : decode cX2_busiestWall 54 = .ok (.aload_n 0, 1) := by decide +kernel
theorem dX2_busiestWall_55 : decode cX2_busiestWall 55 = .ok (.getfield 18, 3) := by decide +kernel
theorem dX2_busiestWall_58 : decode cX2_busiestWall 58 = .ok (.aload_n 0, 1) := by decide +kernel
theorem dX2_busiestWall_59 : decode cX2_busiestWall 59 = .ok (.getfield 30, 3) := by decide +kernel
theorem dX2_busiestWall_62 : decode cX2_busiestWall 62 = .ok (.iload_n 1, 1) := by decide +kernel
theorem dX2_busiestWall_63 : decode cX2_busiestWall 63 = .ok (.iaload, 1) := by decide +kernel
theorem dX2_busiestWall_64 : decode cX2_busiestWall 64 = .ok (.iaload, 1) := by decide +kernel
theorem dX2_busiestWall_65 : decode cX2_busiestWall 65 = .ok (.aload_n 0, 1) := by decide +kernel
theorem dX2_busiestWall_66 : decode cX2_busiestWall 66 = .ok (.getfield 27, 3) := by decide +kernel
theorem dX2_busiestWall_69 : decode cX2_busiestWall 69 = .ok (.iload_n 1, 1) := by decide +kernel
theorem dX2_busiestWall_70 : decode cX2_busiestWall 70 = .ok (.iaload, 1) := by decide +kernel
theorem dX2_busiestWall_71 : decode cX2_busiestWall 71 = .ok (.imul, 1) := by decide +kernel
theorem dX2_busiestWall_72 : decode cX2_busiestWall 72 = .ok (.iadd, 1) := by decide +kernel
theorem dX2_busiestWall_73 : decode cX2_busiestWall 73 = .ok (.iastore, 1) := by decide +kernel
theorem dX2_busiestWall_74 : decode cX2_busiestWall 74 = .ok (.iinc 1 1, 3) := by decide +kernel
theorem dX2_busiestWall_77 : decode cX2_busiestWall 77 = .ok (.goto (-54), 3) := by decide +kernel
theorem dX2_busiestWall_80 : decode cX2_busiestWall 80 = .ok (.iconst (-1), 1) := by decide +kernel
theorem dX2_busiestWall_81 : decode cX2_busiestWall 81 = .ok (.istore_n 1, 1) := by decide +kernel
theorem dX2_busiestWall_82 : decode cX2_busiestWall 82 = .ok (.iconst 0, 1) := by decide +kernel
theorem dX2_busiestWall_83 : decode cX2_busiestWall 83 = .ok (.istore_n 2, 1) := by decide +kernel
theorem dX2_busiestWall_84 : decode cX2_busiestWall 84 = .ok (.iconst 0, 1) := by decide +kernel
theorem dX2_busiestWall_85 : decode cX2_busiestWall 85 = .ok (.istore_n 3, 1) := by decide +kernel
theorem dX2_busiestWall_86 : decode cX2_busiestWall 86 = .ok (.iload_n 3, 1) := by decide +kernel
theorem dX2_busiestWall_87 : decode cX2_busiestWall 87 = .ok (.bipush 10, 2) := by decide +kernel
theorem dX2_busiestWall_89 : decode cX2_busiestWall 89 = .ok (.if_icmp .ge 28, 3) := by decide +kernel
theorem dX2_busiestWall_92 : decode cX2_busiestWall 92 = .ok (.aload_n 0, 1) := by decide +kernel
theorem dX2_busiestWall_93 : decode cX2_busiestWall 93 = .ok (.getfield 40, 3) := by decide +kernel
theorem dX2_busiestWall_96 : decode cX2_busiestWall 96 = .ok (.iload_n 3, 1) := by decide +kernel
theorem dX2_busiestWall_97 : decode cX2_busiestWall 97 = .ok (.iaload, 1) := by decide +kernel
theorem dX2_busiestWall_98 : decode cX2_busiestWall 98 = .ok (.iload_n 2, 1) := by decide +kernel
theorem dX2_busiestWall_99 : decode cX2_busiestWall 99 = .ok (.if_icmp .le 12, 3) := by decide +kernel
theorem dX2_busiestWall_102 : decode cX2_busiestWall 102 = .ok (.aload_n 0, 1) := by decide +kernel
theorem dX2_busiestWall_103 : decode cX2_busiestWall 103 = .ok (.getfield 40, 3) := by decide +kernel
theorem dX2_busiestWall_106 : decode cX2_busiestWall 106 = .ok (.iload_n 3, 1) := by decide +kernel
theorem dX2_busiestWall_107 : decode cX2_busiestWall 107 = .ok (.iaload, 1) := by decide +kernel
theorem dX2_busiestWall_108 : decode cX2_busiestWall 108 = .ok (.istore_n 2, 1) := by decide +kernel
theorem dX2_busiestWall_109 : decode cX2_busiestWall 109 = .ok (.iload_n 3, 1) := by decide +kernel
theorem dX2_busiestWall_110 : decode cX2_busiestWall 110 = .ok (.istore_n 1, 1) := by decide +kernel
theorem dX2_busiestWall_111 : decode cX2_busiestWall 111 = .ok (.iinc 3 1, 3) := by decide +kernel
theorem dX2_busiestWall_114 : decode cX2_busiestWall 114 = .ok (.goto (-28), 3) := by decide +kernel
theorem dX2_busiestWall_117 : decode cX2_busiestWall 117 = .ok (.iload_n 1, 1) := by decide +kernel
theorem dX2_busiestWall_118 : decode cX2_busiestWall 118 = .ok (.ireturn, 1) := by decide +kernel
set_option maxRecDepth 20000 in
theorem ggX2_passNightByDraws_X2_draw : GoodIn wsX2_passNightByDraws wsX2_draw := goodIn_r _ [8, 9, 10, 81, 82, 83, 84, 85, 86, 87, 88, 89, 90, 91, 92, 93, 94, 95] (by decide +kernel) (by decide +kernel)
set_option maxRecDepth 20000 in
theorem gX2_passNightByDraws_X2_draw : GoodIn wsX2_passNightByDraws (wsV RX2 117 RX2 yX2_draw wsX2_draw) := goodIn_app (goodIn_of _ (by decide +kernel)) ggX2_passNightByDraws_X2_draw
set_option maxRecDepth 20000 in
theorem ggX2_passNightByDraws_X2_passNight : GoodIn wsX2_passNightByDraws wsX2_passNight := goodIn_r _ [14, 2, 15, 16, 17, 18, 19, 20, 21, 22, 23, 24, 25, 7, 26, 1, 27, 28, 29, 3, 30, 31, 32, 33, 34, 35, 36, 37, 38, 39, 40, 41, 42, 43, 44, 45, 46, 47, 48, 49, 50, 51, 52, 53, 54, 55, 56, 57, 58, 59, 60, 61, 62, 63, 64, 65, 66, 67, 68, 69, 70, 71, 72, 73, 74, 75, 76, 77, 78, 79, 80, 81, 82, 83, 84, 85, 86, 87, 88, 89, 90, 91, 92, 93, 94, 95] (by decide +kernel) (by decide +kernel)
set_option maxRecDepth 20000 in
theorem gX2_passNightByDraws_X2_passNight : GoodIn wsX2_passNightByDraws (wsV RX2 120 RX2 yX2_passNight wsX2_passNight) := goodIn_app (goodIn_of _ (by decide +kernel)) ggX2_passNightByDraws_X2_passNight
theorem dX2_passNightByDraws_0 : decode cX2_passNightByDraws 0 = .ok (.aload_n 0, 1) := by decide +kernel
theorem dX2_passNightByDraws_1 : decode cX2_passNightByDraws 1 = .ok (.getfield 49, 3) := by decide +kernel
theorem dX2_passNightByDraws_4 : decode cX2_passNightByDraws 4 = .ok (.ifCond .le 43, 3) := by decide +kernel
theorem dX2_passNightByDraws_7 : decode cX2_passNightByDraws 7 = .ok (.aload_n 0, 1) := by decide +kernel
theorem dX2_passNightByDraws_8 : decode cX2_passNightByDraws 8 = .ok (.invokevirtual 117, 3) := by decide +kernel
theorem dX2_passNightByDraws_11 : decode cX2_passNightByDraws 11 = .ok (.aload_n 0, 1) := by decide +kernel
theorem dX2_passNightByDraws_12 : decode cX2_passNightByDraws 12 = .ok (.getfield 49, 3) := by decide +kernel
theorem dX2_passNightByDraws_15 : decode cX2_passNightByDraws 15 = .ok (.irem, 1) := by decide +kernel
theorem dX2_passNightByDraws_16 : decode cX2_passNightByDraws 16 = .ok (.istore_n 1, 1) := by decide +kernel
theorem dX2_passNightByDraws_17 : decode cX2_passNightByDraws 17 = .ok (.aload_n 0, 1) := by decide +kernel
theorem dX2_passNightByDraws_18 : decode cX2_passNightByDraws 18 = .ok (.invokevirtual 117, 3) := by decide +kernel
theorem dX2_passNightByDraws_21 : decode cX2_passNightByDraws 21 = .ok (.bipush 100, 2) := by decide +kernel
theorem dX2_passNightByDraws_23 : decode cX2_passNightByDraws 23 = .ok (.irem, 1) := by decide +kernel
theorem dX2_passNightByDraws_24 : decode cX2_passNightByDraws 24 = .ok (.aload_n 0, 1) := by decide +kernel
theorem dX2_passNightByDraws_25 : decode cX2_passNightByDraws 25 = .ok (.getfield 9, 3) := by decide +kernel
theorem dX2_passNightByDraws_28 : decode cX2_passNightByDraws 28 = .ok (.iconst 3, 1) := by decide +kernel
theorem dX2_passNightByDraws_29 : decode cX2_passNightByDraws 29 = .ok (.iaload, 1) := by decide +kernel
theorem dX2_passNightByDraws_30 : decode cX2_passNightByDraws 30 = .ok (.if_icmp .ge 17, 3) := by decide +kernel
theorem dX2_passNightByDraws_33 : decode cX2_passNightByDraws 33 = .ok (.aload_n 0, 1) := by decide +kernel
theorem dX2_passNightByDraws_34 : decode cX2_passNightByDraws 34 = .ok (.getfield 27, 3) := by decide +kernel
theorem dX2_passNightByDraws_37 : decode cX2_passNightByDraws 37 = .ok (.iload_n 1, 1) := by decide +kernel
theorem dX2_passNightByDraws_38 : decode cX2_passNightByDraws 38 = .ok (.aload_n 0, 1) := by decide +kernel
theorem dX2_passNightByDraws_39 : decode cX2_passNightByDraws 39 = .ok (.getfield 27, 3) := by decide +kernel
theorem dX2_passNightByDraws_42 : decode cX2_passNightByDraws 42 = .ok (.iload_n 1, 1) := by decide +kernel
theorem dX2_passNightByDraws_43 : decode cX2_passNightByDraws 43 = .ok (.iaload, 1) := by decide +kernel
theorem dX2_passNightByDraws_44 : decode cX2_passNightByDraws 44 = .ok (.iconst 2, 1) := by decide +kernel
theorem dX2_passNightByDraws_45 : decode cX2_passNightByDraws 45 = .ok (.idiv, 1) := by decide +kernel
theorem dX2_passNightByDraws_46 : decode cX2_passNightByDraws 46 = .ok (.iastore, 1) := by decide +kernel
theorem dX2_passNightByDraws_47 : decode cX2_passNightByDraws 47 = .ok (.aload_n 0, 1) := by decide +kernel
theorem dX2_passNightByDraws_48 : decode cX2_passNightByDraws 48 = .ok (.invokevirtual 120, 3) := by decide +kernel
theorem dX2_passNightByDraws_51 : decode cX2_passNightByDraws 51 = .ok (.return_, 1) := by decide +kernel
theorem dX2_draw_0 : decode cX2_draw 0 = .ok (.aload_n 0, 1) := by decide +kernel
theorem dX2_draw_1 : decode cX2_draw 1 = .ok (.aload_n 0, 1) := by decide +kernel
theorem dX2_draw_2 : decode cX2_draw 2 = .ok (.getfield 36, 3) := by decide +kernel
theorem dX2_draw_5 : decode cX2_draw 5 = .ok (.ldc 123, 2) := by decide +kernel
theorem dX2_draw_7 : decode cX2_draw 7 = .ok (.imul, 1) := by decide +kernel
theorem dX2_draw_8 : decode cX2_draw 8 = .ok (.sipush 12345, 3) := by decide +kernel
theorem dX2_draw_11 : decode cX2_draw 11 = .ok (.iadd, 1) := by decide +kernel
theorem dX2_draw_12 : decode cX2_draw 12 = .ok (.putfield 36, 3) := by decide +kernel
theorem dX2_draw_15 : decode cX2_draw 15 = .ok (.aload_n 0, 1) := by decide +kernel
theorem dX2_draw_16 : decode cX2_draw 16 = .ok (.getfield 36, 3) := by decide +kernel
theorem dX2_draw_19 : decode cX2_draw 19 = .ok (.bipush 16, 2) := by decide +kernel
theorem dX2_draw_21 : decode cX2_draw 21 = .ok (.iushr, 1) := by decide +kernel
theorem dX2_draw_22 : decode cX2_draw 22 = .ok (.ireturn, 1) := by decide +kernel
set_option maxRecDepth 20000 in
theorem ggX2_gainedBy_X2_passNight : GoodIn wsX2_gainedBy wsX2_passNight := goodIn_r _ [6, 7, 8, 9, 10, 11, 12, 13, 14, 1, 15, 16, 17, 5, 18, 19, 20, 21, 22, 23, 24, 25, 26, 27, 28, 29, 30, 31, 32, 33, 34, 35, 36, 37, 38, 39, 40, 41, 42, 43, 44, 45, 46, 47, 48, 49, 50, 51, 52, 53, 54, 55, 56, 57, 58, 59, 60, 61, 62, 63, 64, 65, 66, 67, 68, 69, 70, 71, 72, 73, 74, 75, 76, 77, 78, 79, 80, 81, 82, 83, 84, 85, 86, 87, 88, 89] (by decide +kernel) (by decide +kernel)
set_option maxRecDepth 20000 in
theorem gX2_gainedBy_X2_passNight : GoodIn wsX2_gainedBy (wsV RX2 120 RX2 yX2_passNight wsX2_passNight) := goodIn_app (goodIn_of _ (by decide +kernel)) ggX2_gainedBy_X2_passNight
theorem dX2_gainedBy_0 : decode cX2_gainedBy 0 = .ok (.iconst 0, 1) := by decide +kernel
theorem dX2_gainedBy_1 : decode cX2_gainedBy 1 = .ok (.istore_n 2, 1) := by decide +kernel
theorem dX2_gainedBy_2 : decode cX2_gainedBy 2 = .ok (.iload_n 2, 1) := by decide +kernel
theorem dX2_gainedBy_3 : decode cX2_gainedBy 3 = .ok (.iload_n 1, 1) := by decide +kernel
theorem dX2_gainedBy_4 : decode cX2_gainedBy 4 = .ok (.if_icmp .ge 13, 3) := by decide +kernel
theorem dX2_gainedBy_7 : decode cX2_gainedBy 7 = .ok (.aload_n 0, 1) := by decide +kernel
theorem dX2_gainedBy_8 : decode cX2_gainedBy 8 = .ok (.invokevirtual 120, 3) := by decide +kernel
theorem dX2_gainedBy_11 : decode cX2_gainedBy 11 = .ok (.iinc 2 1, 3) := by decide +kernel
theorem dX2_gainedBy_14 : decode cX2_gainedBy 14 = .ok (.goto (-12), 3) := by decide +kernel
theorem dX2_gainedBy_17 : decode cX2_gainedBy 17 = .ok (.aload_n 0, 1) := by decide +kernel
theorem dX2_gainedBy_18 : decode cX2_gainedBy 18 = .ok (.getfield 58, 3) := by decide +kernel
theorem dX2_gainedBy_21 : decode cX2_gainedBy 21 = .ok (.ireturn, 1) := by decide +kernel
set_option maxRecDepth 20000 in
theorem ggX2_gainsAtMost_X2_passNight : GoodIn wsX2_gainsAtMost wsX2_passNight := goodIn_r _ [6, 7, 8, 9, 10, 11, 12, 13, 14, 1, 15, 16, 17, 5, 18, 19, 20, 21, 22, 23, 24, 25, 26, 27, 28, 29, 30, 31, 32, 33, 34, 35, 36, 37, 38, 39, 40, 41, 42, 43, 44, 45, 46, 47, 48, 49, 50, 51, 52, 53, 54, 55, 56, 57, 58, 59, 60, 61, 62, 63, 64, 65, 66, 67, 68, 69, 70, 71, 72, 73, 74, 75, 76, 77, 78, 79, 80, 81, 82, 83, 84, 85, 86, 87, 88, 89] (by decide +kernel) (by decide +kernel)
set_option maxRecDepth 20000 in
theorem gX2_gainsAtMost_X2_passNight : GoodIn wsX2_gainsAtMost (wsV RX2 120 RX2 yX2_passNight wsX2_passNight) := goodIn_app (goodIn_of _ (by decide +kernel)) ggX2_gainsAtMost_X2_passNight
theorem dX2_gainsAtMost_0 : decode cX2_gainsAtMost 0 = .ok (.iconst 0, 1) := by decide +kernel
theorem dX2_gainsAtMost_1 : decode cX2_gainsAtMost 1 = .ok (.istore_n 3, 1) := by decide +kernel
theorem dX2_gainsAtMost_2 : decode cX2_gainsAtMost 2 = .ok (.iload_n 3, 1) := by decide +kernel
theorem dX2_gainsAtMost_3 : decode cX2_gainsAtMost 3 = .ok (.iload_n 1, 1) := by decide +kernel
theorem dX2_gainsAtMost_4 : decode cX2_gainsAtMost 4 = .ok (.if_icmp .ge 21, 3) := by decide +kernel
theorem dX2_gainsAtMost_7 : decode cX2_gainsAtMost 7 = .ok (.aload_n 0, 1) := by decide +kernel
theorem dX2_gainsAtMost_8 : decode cX2_gainsAtMost 8 = .ok (.getfield 58, 3) := by decide +kernel
theorem dX2_gainsAtMost_11 : decode cX2_gainsAtMost 11 = .ok (.iload_n 2, 1) := by decide +kernel
theorem dX2_gainsAtMost_12 : decode cX2_gainsAtMost 12 = .ok (.if_icmp .gt 13, 3) := by decide +kernel
theorem dX2_gainsAtMost_15 : decode cX2_gainsAtMost 15 = .ok (.aload_n 0, 1) := by decide +kernel
theorem dX2_gainsAtMost_16 : decode cX2_gainsAtMost 16 = .ok (.invokevirtual 120, 3) := by decide +kernel
theorem dX2_gainsAtMost_19 : decode cX2_gainsAtMost 19 = .ok (.iinc 3 1, 3) := by decide +kernel
theorem dX2_gainsAtMost_22 : decode cX2_gainsAtMost 22 = .ok (.goto (-20), 3) := by decide +kernel
theorem dX2_gainsAtMost_25 : decode cX2_gainsAtMost 25 = .ok (.aload_n 0, 1) := by decide +kernel
theorem dX2_gainsAtMost_26 : decode cX2_gainsAtMost 26 = .ok (.getfield 58, 3) := by decide +kernel
theorem dX2_gainsAtMost_29 : decode cX2_gainsAtMost 29 = .ok (.iload_n 2, 1) := by decide +kernel
theorem dX2_gainsAtMost_30 : decode cX2_gainsAtMost 30 = .ok (.if_icmp .gt 7, 3) := by decide +kernel
theorem dX2_gainsAtMost_33 : decode cX2_gainsAtMost 33 = .ok (.iconst 1, 1) := by decide +kernel
theorem dX2_gainsAtMost_34 : decode cX2_gainsAtMost 34 = .ok (.goto 4, 3) := by decide +kernel
theorem dX2_gainsAtMost_37 : decode cX2_gainsAtMost 37 = .ok (.iconst 0, 1) := by decide +kernel
theorem dX2_gainsAtMost_38 : decode cX2_gainsAtMost 38 = .ok (.ireturn, 1) := by decide +kernel
theorem dX3_init_0 : decode cX3_init 0 = .ok (.aload_n 0, 1) := by decide +kernel
theorem dX3_init_1 : decode cX3_init 1 = .ok (.invokespecial 3, 3) := by decide +kernel
theorem dX3_init_4 : decode cX3_init 4 = .ok (.aload_n 0, 1) := by decide +kernel
theorem dX3_init_5 : decode cX3_init 5 = .ok (.aload_n 1, 1) := by decide +kernel
theorem dX3_init_6 : decode cX3_init 6 = .ok (.putfield 9, 3) := by decide +kernel
theorem dX3_init_9 : decode cX3_init 9 = .ok (.aload_n 0, 1) := by decide +kernel
theorem dX3_init_10 : decode cX3_init 10 = .ok (.iload_n 2, 1) := by decide +kernel
theorem dX3_init_11 : decode cX3_init 11 = .ok (.aload_n 1, 1) := by decide +kernel
theorem dX3_init_12 : decode cX3_init 12 = .ok (.arraylength, 1) := by decide +kernel
theorem dX3_init_13 : decode cX3_init 13 = .ok (.invokestatic 15, 3) := by decide +kernel
theorem dX3_init_16 : decode cX3_init 16 = .ok (.putfield 21, 3) := by decide +kernel
theorem dX3_init_19 : decode cX3_init 19 = .ok (.aload_n 0, 1) := by decide +kernel
theorem dX3_init_20 : decode cX3_init 20 = .ok (.aload_n 3, 1) := by decide +kernel
theorem dX3_init_21 : decode cX3_init 21 = .ok (.putfield 25, 3) := by decide +kernel
theorem dX3_init_24 : decode cX3_init 24 = .ok (.return_, 1) := by decide +kernel
set_option maxRecDepth 20000 in
theorem ggX3_faultOfAll_X3_step : GoodIn wsX3_faultOfAll wsX3_step := goodIn_r _ [7, 8, 2, 9, 10, 1, 11, 12, 13, 6, 14, 124, 125, 126, 127, 128, 129] (by decide +kernel) (by decide +kernel)
set_option maxRecDepth 20000 in
theorem gX3_faultOfAll_X3_step : GoodIn wsX3_faultOfAll (wsV RX3 29 RX3 yX3_step wsX3_step) := goodIn_app (goodIn_of _ (by decide +kernel)) ggX3_faultOfAll_X3_step
set_option maxRecDepth 20000 in
theorem ggX3_faultOfAll_X3_kindTold : GoodIn wsX3_faultOfAll wsX3_kindTold := goodIn_r _ [18, 19, 20, 21, 6, 22, 1, 8, 2, 10, 23, 24, 25, 26, 27, 28, 29, 30, 31, 32, 33, 34, 35, 36, 37, 38, 39, 40, 41, 42, 43, 44, 45, 46, 47, 48, 49, 50, 51, 52, 53, 54, 55, 56, 57, 58, 59, 60, 61, 62, 63, 64, 65, 66, 67, 68, 69, 70, 71, 124, 125, 126, 127, 128, 129] (by decide +kernel) (by decide +kernel)
set_option maxRecDepth 20000 in
theorem gX3_faultOfAll_X3_kindTold : GoodIn wsX3_faultOfAll (wsV RX3 35 RX3 yX3_kindTold wsX3_kindTold) := goodIn_app (goodIn_of _ (by decide +kernel)) ggX3_faultOfAll_X3_kindTold
set_option maxRecDepth 20000 in
theorem ggX3_faultOfAll_X3_lawTold : GoodIn wsX3_faultOfAll wsX3_lawTold := goodIn_r _ [75, 19, 20, 21, 6, 22, 1, 8, 2, 10, 23, 24, 25, 26, 27, 28, 29, 30, 31, 32, 33, 34, 35, 36, 37, 38, 39, 40, 41, 42, 43, 44, 45, 46, 47, 48, 49, 50, 51, 52, 53, 54, 55, 56, 57, 58, 59, 60, 61, 62, 63, 64, 65, 66, 67, 68, 69, 70, 71, 124, 125, 126, 127, 128, 129] (by decide +kernel) (by decide +kernel)
set_option maxRecDepth 20000 in
theorem gX3_faultOfAll_X3_lawTold : GoodIn wsX3_faultOfAll (wsV RX3 39 RX3 yX3_lawTold wsX3_lawTold) := goodIn_app (goodIn_of _ (by decide +kernel)) ggX3_faultOfAll_X3_lawTold
set_option maxRecDepth 20000 in
theorem ggX3_faultOfAll_X3_readName : GoodIn wsX3_faultOfAll wsX3_readName := goodIn_r _ [79, 80, 81, 3, 4, 5, 6, 7, 8, 2, 9, 10, 1, 11, 12, 13, 14, 82, 83, 84, 85, 19, 20, 21, 22, 23, 24, 25, 26, 27, 28, 29, 30, 31, 32, 33, 34, 35, 36, 37, 38, 39, 40, 41, 42, 43, 44, 45, 46, 47, 48, 49, 50, 51, 52, 53, 54, 55, 56, 57, 58, 59, 60, 61, 62, 63, 64, 65, 66, 67, 68, 69, 70, 71, 86, 87, 88, 89, 90, 91, 92, 93, 94, 95, 96, 97, 98, 99, 100, 101, 102, 103, 104, 105, 106, 107, 108, 124, 125, 126, 127, 128, 129, 130, 131, 132, 133, 134, 135, 136, 137, 138, 139, 140, 141, 142, 143, 144] (by decide +kernel) (by decide +kernel)
set_option maxRecDepth 20000 in
theorem gX3_faultOfAll_X3_readName : GoodIn wsX3_faultOfAll (wsV RX3 42 RX3 yX3_readName wsX3_readName) := goodIn_app (goodIn_of _ (by decide +kernel)) ggX3_faultOfAll_X3_readName
set_option maxRecDepth 20000 in
theorem ggX3_faultOfAll_X3_readLaw : GoodIn wsX3_faultOfAll wsX3_readLaw := goodIn_r _ [112, 80, 113, 3, 4, 5, 6, 7, 8, 2, 9, 10, 1, 11, 12, 13, 14, 86, 87, 88, 89, 94, 95, 96, 97, 124, 125, 126, 127, 128, 129, 130, 131, 132, 133, 134, 135, 136, 137, 138, 139, 140, 141, 142, 143, 144] (by decide +kernel) (by decide +kernel)
set_option maxRecDepth 20000 in
theorem gX3_faultOfAll_X3_readLaw : GoodIn wsX3_faultOfAll (wsV RX3 46 RX3 yX3_readLaw wsX3_readLaw) := goodIn_app (goodIn_of _ (by decide +kernel)) ggX3_faultOfAll_X3_readLaw
set_option maxRecDepth 20000 in
theorem ggX3_faultOfAll_X3_isWord : GoodIn wsX3_faultOfAll wsX3_isWord := goodIn_r _ [22, 1, 8, 2, 10, 23, 24, 25, 26, 27, 28, 29, 30, 31, 32, 33, 34, 35, 36, 37, 38, 39, 40, 41, 42, 43, 44, 45, 46, 47, 48, 49, 50, 51, 52, 53, 54, 55, 56, 57, 58, 59, 60, 61, 62, 63, 64, 65, 66, 67, 68, 69, 70, 71, 124, 125, 126, 127, 128, 129] (by decide +kernel) (by decide +kernel)
set_option maxRecDepth 20000 in
theorem gX3_faultOfAll_X3_isWord : GoodIn wsX3_faultOfAll (wsV RX3 51 RX3 yX3_isWord wsX3_isWord) := goodIn_app (goodIn_of _ (by decide +kernel)) ggX3_faultOfAll_X3_isWord
set_option maxRecDepth 20000 in
theorem ggX3_faultOfAll_X3_readWall : GoodIn wsX3_faultOfAll wsX3_readWall := goodIn_r _ [117, 80, 118, 119, 3, 4, 5, 6, 7, 8, 2, 9, 10, 1, 11, 12, 13, 14, 86, 87, 88, 89, 120, 121, 122, 123, 19, 20, 21, 22, 23, 24, 25, 26, 27, 28, 29, 30, 31, 32, 33, 34, 35, 36, 37, 38, 39, 40, 41, 42, 43, 44, 45, 46, 47, 48, 49, 50, 51, 52, 53, 54, 55, 56, 57, 58, 59, 60, 61, 62, 63, 64, 65, 66, 67, 68, 69, 70, 71, 90, 91, 92, 93, 82, 83, 84, 85, 94, 95, 96, 97, 124, 125, 126, 127, 128, 129, 130, 131, 132, 133, 134, 135, 136, 137, 138, 139, 140, 141, 142, 143, 144] (by decide +kernel) (by decide +kernel)
set_option maxRecDepth 20000 in
theorem gX3_faultOfAll_X3_readWall : GoodIn wsX3_faultOfAll (wsV RX3 55 RX3 yX3_readWall wsX3_readWall) := goodIn_app (goodIn_of _ (by decide +kernel)) ggX3_faultOfAll_X3_readWall
theorem dX3_faultOfAll_0 : decode cX3_faultOfAll 0 = .ok (.aload_n 0, 1) := by decide +kernel
theorem dX3_faultOfAll_1 : decode cX3_faultOfAll 1 = .ok (.invokevirtual 29, 3) := by decide +kernel
theorem dX3_faultOfAll_4 : decode cX3_faultOfAll 4 = .ok (.iconst 0, 1) := by decide +kernel
theorem dX3_faultOfAll_5 : decode cX3_faultOfAll 5 = .ok (.istore_n 1, 1) := by decide +kernel
theorem dX3_faultOfAll_6 : decode cX3_faultOfAll 6 = .ok (.iload_n 1, 1) := by decide +kernel
theorem dX3_faultOfAll_7 : decode cX3_faultOfAll 7 = .ok (.sipush 200, 3) := by decide +kernel
theorem dX3_faultOfAll_10 : decode cX3_faultOfAll 10 = .ok (.if_icmp .ge 87, 3) := by decide +kernel
theorem dX3_faultOfAll_13 : decode cX3_faultOfAll 13 = .ok (.aload_n 0, 1) := by decide +kernel
theorem dX3_faultOfAll_14 : decode cX3_faultOfAll 14 = .ok (.getfield 32, 3) := by decide +kernel
theorem dX3_faultOfAll_17 : decode cX3_faultOfAll 17 = .ok (.ifCond .eq 80, 3) := by decide +kernel
theorem dX3_faultOfAll_20 : decode cX3_faultOfAll 20 = .ok (.aload_n 0, 1) := by decide +kernel
theorem dX3_faultOfAll_21 : decode cX3_faultOfAll 21 = .ok (.invokevirtual 35, 3) := by decide +kernel
theorem dX3_faultOfAll_24 : decode cX3_faultOfAll 24 = .ok (.istore_n 2, 1) := by decide +kernel
theorem dX3_faultOfAll_25 : decode cX3_faultOfAll 25 = .ok (.aload_n 0, 1) := by decide +kernel
theorem dX3_faultOfAll_26 : decode cX3_faultOfAll 26 = .ok (.invokevirtual 39, 3) := by decide +kernel
theorem dX3_faultOfAll_29 : decode cX3_faultOfAll 29 = .ok (.istore_n 3, 1) := by decide +kernel
theorem dX3_faultOfAll_30 : decode cX3_faultOfAll 30 = .ok (.iload_n 2, 1) := by decide +kernel
theorem dX3_faultOfAll_31 : decode cX3_faultOfAll 31 = .ok (.ifCond .lt 13, 3) := by decide +kernel
theorem dX3_faultOfAll_34 : decode cX3_faultOfAll 34 = .ok (.aload_n 0, 1) := by decide +kernel
theorem dX3_faultOfAll_35 : decode cX3_faultOfAll 35 = .ok (.iload_n 2, 1) := by decide +kernel
theorem dX3_faultOfAll_36 : decode cX3_faultOfAll 36 = .ok (.invokevirtual 42, 3) := by decide +kernel
theorem dX3_faultOfAll_39 : decode cX3_faultOfAll 39 = .ok (.istore 4, 2) := by decide +kernel
theorem dX3_faultOfAll_41 : decode cX3_faultOfAll 41 = .ok (.goto 40, 3) := by decide +kernel
theorem dX3_faultOfAll_44 : decode cX3_faultOfAll 44 = .ok (.iload_n 3, 1) := by decide +kernel
theorem dX3_faultOfAll_45 : decode cX3_faultOfAll 45 = .ok (.ifCond .lt 13, 3) := by decide +kernel
theorem dX3_faultOfAll_48 : decode cX3_faultOfAll 48 = .ok (.aload_n 0, 1) := by decide +kernel
theorem dX3_faultOfAll_49 : decode cX3_faultOfAll 49 = .ok (.iload_n 3, 1) := by decide +kernel
theorem dX3_faultOfAll_50 : decode cX3_faultOfAll 50 = .ok (.invokevirtual 46, 3) := by decide +kernel
theorem dX3_faultOfAll_53 : decode cX3_faultOfAll 53 = .ok (.istore 4, 2) := by decide +kernel
theorem dX3_faultOfAll_55 : decode cX3_faultOfAll 55 = .ok (.goto 26, 3) := by decide +kernel
theorem dX3_faultOfAll_58 : decode cX3_faultOfAll 58 = .ok (.aload_n 0, 1) := by decide +kernel
theorem dX3_faultOfAll_59 : decode cX3_faultOfAll 59 = .ok (.ldc 49, 2) := by decide +kernel
theorem dX3_faultOfAll_61 : decode cX3_faultOfAll 61 = .ok (.invokevirtual 51, 3) := by decide +kernel
theorem dX3_faultOfAll_64 : decode cX3_faultOfAll 64 = .ok (.ifCond .eq 14, 3) := by decide +kernel
theorem dX3_faultOfAll_67 : decode cX3_faultOfAll 67 = .ok (.aload_n 0, 1) := by decide +kernel
theorem dX3_faultOfAll_68 : decode cX3_faultOfAll 68 = .ok (.invokevirtual 55, 3) := by decide +kernel
theorem dX3_faultOfAll_71 : decode cX3_faultOfAll 71 = .ok (.ifCond .eq 7, 3) := by decide +kernel
theorem dX3_faultOfAll_74 : decode cX3_faultOfAll 74 = .ok (.iconst 1, 1) := by decide +kernel
theorem dX3_faultOfAll_75 : decode cX3_faultOfAll 75 = .ok (.goto 4, 3) := by decide +kernel
theorem dX3_faultOfAll_78 : decode cX3_faultOfAll 78 = .ok (.iconst 0, 1) := by decide +kernel
theorem dX3_faultOfAll_79 : decode cX3_faultOfAll 79 = .ok (.istore 4, 2) := by decide +kernel
theorem dX3_faultOfAll_81 : decode cX3_faultOfAll 81 = .ok (.iload 4, 2) := by decide +kernel
theorem dX3_faultOfAll_83 : decode cX3_faultOfAll 83 = .ok (.ifCond .ne 8, 3) := by decide +kernel
theorem dX3_faultOfAll_86 : decode cX3_faultOfAll 86 = .ok (.aload_n 0, 1) := by decide +kernel
theorem dX3_faultOfAll_87 : decode cX3_faultOfAll 87 = .ok (.getfield 59, 3) := by decide +kernel
theorem dX3_faultOfAll_90 : decode cX3_faultOfAll 90 = .ok (.ireturn, 1) := by decide +kernel
theorem dX3_faultOfAll_91 : decode cX3_faultOfAll 91 = .ok (.iinc 1 1, 3) := by decide +kernel
theorem dX3_faultOfAll_94 : decode cX3_faultOfAll 94 = .ok (.goto (-88), 3) := by decide +kernel
theorem dX3_faultOfAll_97 : decode cX3_faultOfAll 97 = .ok (.iconst (-1), 1) := by decide +kernel
theorem dX3_faultOfAll_98 : decode cX3_faultOfAll 98 = .ok (.ireturn, 1) := by decide +kernel
set_option maxRecDepth 20000 in
theorem ggX3_readName_X3_step : GoodIn wsX3_readName wsX3_step := goodIn_r _ [7, 8, 9, 10, 11, 12, 13, 14, 15, 6, 16, 97, 98, 99, 100, 101, 102] (by decide +kernel) (by decide +kernel)
set_option maxRecDepth 20000 in
theorem gX3_readName_X3_step : GoodIn wsX3_readName (wsV RX3 29 RX3 yX3_step wsX3_step) := goodIn_app (goodIn_of _ (by decide +kernel)) ggX3_readName_X3_step
set_option maxRecDepth 20000 in
theorem ggX3_readName_X3_takeWord : GoodIn wsX3_readName wsX3_takeWord := goodIn_r _ [20, 21, 22, 23, 6, 24, 12, 8, 9, 11, 25, 26, 27, 28, 29, 30, 31, 32, 33, 34, 35, 36, 37, 38, 39, 40, 41, 42, 43, 44, 45, 46, 47, 48, 49, 50, 51, 52, 53, 54, 55, 56, 57, 58, 59, 60, 61, 62, 63, 64, 65, 66, 67, 68, 69, 70, 71, 72, 73, 3, 4, 5, 7, 10, 13, 14, 15, 16, 97, 98, 99, 100, 101, 102] (by decide +kernel) (by decide +kernel)
set_option maxRecDepth 20000 in
theorem gX3_readName_X3_takeWord : GoodIn wsX3_readName (wsV RX3 69 RX3 yX3_takeWord wsX3_takeWord) := goodIn_app (goodIn_of _ (by decide +kernel)) ggX3_readName_X3_takeWord
set_option maxRecDepth 20000 in
theorem ggX3_readName_X3_takeNumber : GoodIn wsX3_readName wsX3_takeNumber := goodIn_r _ [77, 12, 8, 9, 11, 3, 4, 5, 6, 7, 10, 13, 14, 15, 16, 97, 98, 99, 100, 101, 102] (by decide +kernel) (by decide +kernel)
set_option maxRecDepth 20000 in
theorem gX3_readName_X3_takeNumber : GoodIn wsX3_readName (wsV RX3 72 RX3 yX3_takeNumber wsX3_takeNumber) := goodIn_app (goodIn_of _ (by decide +kernel)) ggX3_readName_X3_takeNumber
set_option maxRecDepth 20000 in
theorem ggX3_readName_X3_takeOption : GoodIn wsX3_readName wsX3_takeOption := goodIn_r _ [81, 17, 18, 19, 6, 20, 21, 22, 23, 24, 12, 8, 9, 11, 25, 26, 27, 28, 29, 30, 31, 32, 33, 34, 35, 36, 37, 38, 39, 40, 41, 42, 43, 44, 45, 46, 47, 48, 49, 50, 51, 52, 53, 54, 55, 56, 57, 58, 59, 60, 61, 62, 63, 64, 65, 66, 67, 68, 69, 70, 71, 72, 73, 3, 4, 5, 7, 10, 13, 14, 15, 16, 74, 75, 76, 77, 97, 98, 99, 100, 101, 102] (by decide +kernel) (by decide +kernel)
set_option maxRecDepth 20000 in
theorem gX3_readName_X3_takeOption : GoodIn wsX3_readName (wsV RX3 78 RX3 yX3_takeOption wsX3_takeOption) := goodIn_app (goodIn_of _ (by decide +kernel)) ggX3_readName_X3_takeOption
set_option maxRecDepth 20000 in
theorem ggX3_readName_X3_takeEnd : GoodIn wsX3_readName wsX3_takeEnd := goodIn_r _ [85, 12, 11, 9, 3, 4, 5, 6, 7, 8, 10, 13, 14, 15, 16, 97, 98, 99, 100, 101, 102] (by decide +kernel) (by decide +kernel)
set_option maxRecDepth 20000 in
theorem gX3_readName_X3_takeEnd : GoodIn wsX3_readName (wsV RX3 84 RX3 yX3_takeEnd wsX3_takeEnd) := goodIn_app (goodIn_of _ (by decide +kernel)) ggX3_readName_X3_takeEnd
set_option maxRecDepth 20000 in
theorem ggX3_readName_X2_addName : GoodIn wsX3_readName wsX2_addName := goodIn_r _ [90, 91, 92, 93, 94, 95, 96, 103, 104, 105, 106, 107, 108, 109, 110, 111, 112, 113, 114, 115, 116, 117] (by decide +kernel) (by decide +kernel)
set_option maxRecDepth 20000 in
theorem gX3_readName_X2_addName : GoodIn wsX3_readName (wsV RX3 87 RX2 yX2_addName wsX2_addName) := goodIn_app (goodIn_of _ (by decide +kernel)) ggX3_readName_X2_addName
theorem dX3_readName_0 : decode cX3_readName 0 = .ok (.aload_n 0, 1) := by decide +kernel
theorem dX3_readName_1 : decode cX3_readName 1 = .ok (.getfield 25, 3) := by decide +kernel
theorem dX3_readName_4 : decode cX3_readName 4 = .ok (.getfield 62, 3) := by decide +kernel
theorem dX3_readName_7 : decode cX3_readName 7 = .ok (.bipush 8, 2) := by decide +kernel
theorem dX3_readName_9 : decode cX3_readName 9 = .ok (.if_icmp .lt 5, 3) := by decide +kernel
theorem dX3_readName_12 : decode cX3_readName 12 = .ok (.iconst 0, 1) := by decide +kernel
theorem dX3_readName_13 : decode cX3_readName 13 = .ok (.ireturn, 1) := by decide +kernel
theorem dX3_readName_14 : decode cX3_readName 14 = .ok (.aload_n 0, 1) := by decide +kernel
theorem dX3_readName_15 : decode cX3_readName 15 = .ok (.invokevirtual 29, 3) := by decide +kernel
theorem dX3_readName_18 : decode cX3_readName 18 = .ok (.aload_n 0, 1) := by decide +kernel
theorem dX3_readName_19 : decode cX3_readName 19 = .ok (.ldc 67, 2) := by decide +kernel
theorem dX3_readName_21 : decode cX3_readName 21 = .ok (.invokevirtual 69, 3) := by decide +kernel
theorem dX3_readName_24 : decode cX3_readName 24 = .ok (.ifCond .ne 5, 3) := by decide +kernel
theorem dX3_readName_27 : decode cX3_readName 27 = .ok (.iconst 0, 1) := by decide +kernel
theorem dX3_readName_28 : decode cX3_readName 28 = .ok (.ireturn, 1) := by decide +kernel
theorem dX3_readName_29 : decode cX3_readName 29 = .ok (.aload_n 0, 1) := by decide +kernel
theorem dX3_readName_30 : decode cX3_readName 30 = .ok (.bipush 9, 2) := by decide +kernel
theorem dX3_readName_32 : decode cX3_readName 32 = .ok (.invokevirtual 72, 3) := by decide +kernel
theorem dX3_readName_35 : decode cX3_readName 35 = .ok (.istore_n 2, 1) := by decide +kernel
theorem dX3_readName_36 : decode cX3_readName 36 = .ok (.iload_n 2, 1) := by decide +kernel
theorem dX3_readName_37 : decode cX3_readName 37 = .ok (.ifCond .ge 5, 3) := by decide +kernel
theorem dX3_readName_40 : decode cX3_readName 40 = .ok (.iconst 0, 1) := by decide +kernel
theorem dX3_readName_41 : decode cX3_readName 41 = .ok (.ireturn, 1) := by decide +kernel
theorem dX3_readName_42 : decode cX3_readName 42 = .ok (.aload_n 0, 1) := by decide +kernel
theorem dX3_readName_43 : decode cX3_readName 43 = .ok (.ldc 76, 2) := by decide +kernel
theorem dX3_readName_45 : decode cX3_readName 45 = .ok (.bipush 9, 2) := by decide +kernel
theorem dX3_readName_47 : decode cX3_readName 47 = .ok (.iconst 0, 1) := by decide +kernel
theorem dX3_readName_48 : decode cX3_readName 48 = .ok (.invokevirtual 78, 3) := by decide +kernel
theorem dX3_readName_51 : decode cX3_readName 51 = .ok (.istore_n 3, 1) := by decide +kernel
theorem dX3_readName_52 : decode cX3_readName 52 = .ok (.iload_n 3, 1) := by decide +kernel
theorem dX3_readName_53 : decode cX3_readName 53 = .ok (.ifCond .ge 5, 3) := by decide +kernel
theorem dX3_readName_56 : decode cX3_readName 56 = .ok (.iconst 0, 1) := by decide +kernel
theorem dX3_readName_57 : decode cX3_readName 57 = .ok (.ireturn, 1) := by decide +kernel
theorem dX3_readName_58 : decode cX3_readName 58 = .ok (.aload_n 0, 1) := by decide +kernel
theorem dX3_readName_59 : decode cX3_readName 59 = .ok (.ldc 82, 2) := by decide +kernel
theorem dX3_readName_61 : decode cX3_readName 61 = .ok (.bipush 99, 2) := by decide +kernel
theorem dX3_readName_63 : decode cX3_readName 63 = .ok (.iconst 5, 1) := by decide +kernel
theorem dX3_readName_64 : decode cX3_readName 64 = .ok (.invokevirtual 78, 3) := by decide +kernel
theorem dX3_readName_67 : decode cX3_readName 67 = .ok (.istore 4, 2) := by decide +kernel
theorem dX3_readName_69 : decode cX3_readName 69 = .ok (.iload 4, 2) := by decide +kernel
theorem dX3_readName_71 : decode cX3_readName 71 = .ok (.ifCond .lt 29, 3) := by decide +kernel
theorem dX3_readName_74 : decode cX3_readName 74 = .ok (.aload_n 0, 1) := by decide +kernel
theorem dX3_readName_75 : decode cX3_readName 75 = .ok (.invokevirtual 84, 3) := by decide +kernel
theorem dX3_readName_78 : decode cX3_readName 78 = .ok (.ifCond .eq 22, 3) := by decide +kernel
theorem dX3_readName_81 : decode cX3_readName 81 = .ok (.aload_n 0, 1) := by decide +kernel
theorem dX3_readName_82 : decode cX3_readName 82 = .ok (.getfield 25, 3) := by decide +kernel
theorem dX3_readName_85 : decode cX3_readName 85 = .ok (.iload_n 1, 1) := by decide +kernel
theorem dX3_readName_86 : decode cX3_readName 86 = .ok (.iload_n 3, 1) := by decide +kernel
theorem dX3_readName_87 : decode cX3_readName 87 = .ok (.iload 4, 2) := by decide +kernel
theorem dX3_readName_89 : decode cX3_readName 89 = .ok (.iload_n 2, 1) := by decide +kernel
theorem dX3_readName_90 : decode cX3_readName 90 = .ok (.invokevirtual 87, 3) := by decide +kernel
theorem dX3_readName_93 : decode cX3_readName 93 = .ok (.ifCond .eq 7, 3) := by decide +kernel
theorem dX3_readName_96 : decode cX3_readName 96 = .ok (.iconst 1, 1) := by decide +kernel
theorem dX3_readName_97 : decode cX3_readName 97 = .ok (.goto 4, 3) := by decide +kernel
theorem dX3_readName_100 : decode cX3_readName 100 = .ok (.iconst 0, 1) := by decide +kernel
theorem dX3_readName_101 : decode cX3_readName 101 = .ok (.ireturn, 1) := by decide +kernel
set_option maxRecDepth 20000 in
theorem ggX3_readWall_X3_step : GoodIn wsX3_readWall wsX3_step := goodIn_r _ [8, 9, 10, 11, 12, 13, 14, 15, 16, 7, 17, 91, 92, 93, 94, 95, 96] (by decide +kernel) (by decide +kernel)
set_option maxRecDepth 20000 in
theorem gX3_readWall_X3_step : GoodIn wsX3_readWall (wsV RX3 29 RX3 yX3_step wsX3_step) := goodIn_app (goodIn_of _ (by decide +kernel)) ggX3_readWall_X3_step
set_option maxRecDepth 20000 in
theorem ggX3_readWall_X3_takeNumber : GoodIn wsX3_readWall wsX3_takeNumber := goodIn_r _ [21, 13, 9, 10, 12, 4, 5, 6, 7, 8, 11, 14, 15, 16, 17, 91, 92, 93, 94, 95, 96] (by decide +kernel) (by decide +kernel)
set_option maxRecDepth 20000 in
theorem gX3_readWall_X3_takeNumber : GoodIn wsX3_readWall (wsV RX3 72 RX3 yX3_takeNumber wsX3_takeNumber) := goodIn_app (goodIn_of _ (by decide +kernel)) ggX3_readWall_X3_takeNumber
set_option maxRecDepth 20000 in
theorem ggX3_readWall_X3_groundTold : GoodIn wsX3_readWall wsX3_groundTold := goodIn_r _ [25, 26, 27, 28, 7, 29, 13, 9, 10, 12, 30, 31, 32, 33, 34, 35, 36, 37, 38, 39, 40, 41, 42, 43, 44, 45, 46, 47, 48, 49, 50, 51, 52, 53, 54, 55, 56, 57, 58, 59, 60, 61, 62, 63, 64, 65, 66, 67, 68, 69, 70, 71, 72, 73, 74, 75, 76, 77, 78, 91, 92, 93, 94, 95, 96] (by decide +kernel) (by decide +kernel)
set_option maxRecDepth 20000 in
theorem gX3_readWall_X3_groundTold : GoodIn wsX3_readWall (wsV RX3 91 RX3 yX3_groundTold wsX3_groundTold) := goodIn_app (goodIn_of _ (by decide +kernel)) ggX3_readWall_X3_groundTold
set_option maxRecDepth 20000 in
theorem ggX3_readWall_X3_takeOption : GoodIn wsX3_readWall wsX3_takeOption := goodIn_r _ [82, 83, 84, 85, 7, 86, 26, 27, 28, 29, 13, 9, 10, 12, 30, 31, 32, 33, 34, 35, 36, 37, 38, 39, 40, 41, 42, 43, 44, 45, 46, 47, 48, 49, 50, 51, 52, 53, 54, 55, 56, 57, 58, 59, 60, 61, 62, 63, 64, 65, 66, 67, 68, 69, 70, 71, 72, 73, 74, 75, 76, 77, 78, 4, 5, 6, 8, 11, 14, 15, 16, 17, 18, 19, 20, 21, 91, 92, 93, 94, 95, 96] (by decide +kernel) (by decide +kernel)
set_option maxRecDepth 20000 in
theorem gX3_readWall_X3_takeOption : GoodIn wsX3_readWall (wsV RX3 78 RX3 yX3_takeOption wsX3_takeOption) := goodIn_app (goodIn_of _ (by decide +kernel)) ggX3_readWall_X3_takeOption
set_option maxRecDepth 20000 in
theorem ggX3_readWall_X3_takeEnd : GoodIn wsX3_readWall wsX3_takeEnd := goodIn_r _ [90, 13, 12, 10, 4, 5, 6, 7, 8, 9, 11, 14, 15, 16, 17, 91, 92, 93, 94, 95, 96] (by decide +kernel) (by decide +kernel)
set_option maxRecDepth 20000 in
theorem gX3_readWall_X3_takeEnd : GoodIn wsX3_readWall (wsV RX3 84 RX3 yX3_takeEnd wsX3_takeEnd) := goodIn_app (goodIn_of _ (by decide +kernel)) ggX3_readWall_X3_takeEnd
theorem dX3_readWall_0 : decode cX3_readWall 0 = .ok (.aload_n 0, 1) := by decide +kernel
theorem dX3_readWall_1 : decode cX3_readWall 1 = .ok (.invokevirtual 29, 3) := by decide +kernel
theorem dX3_readWall_4 : decode cX3_readWall 4 = .ok (.aload_n 0, 1) := by decide +kernel
theorem dX3_readWall_5 : decode cX3_readWall 5 = .ok (.bipush 9, 2) := by decide +kernel
theorem dX3_readWall_7 : decode cX3_readWall 7 = .ok (.invokevirtual 72, 3) := by decide +kernel
theorem dX3_readWall_10 : decode cX3_readWall 10 = .ok (.istore_n 1, 1) := by decide +kernel
theorem dX3_readWall_11 : decode cX3_readWall 11 = .ok (.iload_n 1, 1) := by decide +kernel
theorem dX3_readWall_12 : decode cX3_readWall 12 = .ok (.ifCond .ge 5, 3) := by decide +kernel
theorem dX3_readWall_15 : decode cX3_readWall 15 = .ok (.iconst 0, 1) := by decide +kernel
theorem dX3_readWall_16 : decode cX3_readWall 16 = .ok (.ireturn, 1) := by decide +kernel
theorem dX3_readWall_17 : decode cX3_readWall 17 = .ok (.aload_n 0, 1) := by decide +kernel
theorem dX3_readWall_18 : decode cX3_readWall 18 = .ok (.invokevirtual 91, 3) := by decide +kernel
theorem dX3_readWall_21 : decode cX3_readWall 21 = .ok (.istore_n 2, 1) := by decide +kernel
theorem dX3_readWall_22 : decode cX3_readWall 22 = .ok (.iload_n 2, 1) := by decide +kernel
theorem dX3_readWall_23 : decode cX3_readWall 23 = .ok (.ifCond .ge 5, 3) := by decide +kernel
theorem dX3_readWall_26 : decode cX3_readWall 26 = .ok (.iconst 0, 1) := by decide +kernel
theorem dX3_readWall_27 : decode cX3_readWall 27 = .ok (.ireturn, 1) := by decide +kernel
theorem dX3_readWall_28 : decode cX3_readWall 28 = .ok (.aload_n 0, 1) := by decide +kernel
theorem dX3_readWall_29 : decode cX3_readWall 29 = .ok (.invokevirtual 29, 3) := by decide +kernel
theorem dX3_readWall_32 : decode cX3_readWall 32 = .ok (.aload_n 0, 1) := by decide +kernel
theorem dX3_readWall_33 : decode cX3_readWall 33 = .ok (.ldc 94, 2) := by decide +kernel
theorem dX3_readWall_35 : decode cX3_readWall 35 = .ok (.bipush 9, 2) := by decide +kernel
theorem dX3_readWall_37 : decode cX3_readWall 37 = .ok (.aload_n 0, 1) := by decide +kernel
theorem dX3_readWall_38 : decode cX3_readWall 38 = .ok (.getfield 25, 3) := by decide +kernel
theorem dX3_readWall_41 : decode cX3_readWall 41 = .ok (.getfield 96, 3) := by decide +kernel
theorem dX3_readWall_44 : decode cX3_readWall 44 = .ok (.iload_n 1, 1) := by decide +kernel
theorem dX3_readWall_45 : decode cX3_readWall 45 = .ok (.iaload, 1) := by decide +kernel
theorem dX3_readWall_46 : decode cX3_readWall 46 = .ok (.invokevirtual 78, 3) := by decide +kernel
theorem dX3_readWall_49 : decode cX3_readWall 49 = .ok (.istore_n 3, 1) := by decide +kernel
theorem dX3_readWall_50 : decode cX3_readWall 50 = .ok (.iload_n 3, 1) := by decide +kernel
theorem dX3_readWall_51 : decode cX3_readWall 51 = .ok (.ifCond .lt 10, 3) := by decide +kernel
theorem dX3_readWall_54 : decode cX3_readWall 54 = .ok (.aload_n 0, 1) := by decide +kernel
theorem dX3_readWall_55 : decode cX3_readWall 55 = .ok (.invokevirtual 84, 3) := by decide +kernel
theorem dX3_readWall_58 : decode cX3_readWall 58 = .ok (.ifCond .ne 5, 3) := by decide +kernel
theorem dX3_readWall_61 : decode cX3_readWall 61 = .ok (.iconst 0, 1) := by decide +kernel
theorem dX3_readWall_62 : decode cX3_readWall 62 = .ok (.ireturn, 1) := by decide +kernel
theorem dX3_readWall_63 : decode cX3_readWall 63 = .ok (.aload_n 0, 1) := by decide +kernel
theorem dX3_readWall_64 : decode cX3_readWall 64 = .ok (.getfield 25, 3) := by decide +kernel
theorem dX3_readWall_67 : decode cX3_readWall 67 = .ok (.getfield 99, 3) := by decide +kernel
theorem dX3_readWall_70 : decode cX3_readWall 70 = .ok (.iload_n 1, 1) := by decide +kernel
theorem dX3_readWall_71 : decode cX3_readWall 71 = .ok (.iload_n 2, 1) := by decide +kernel
theorem dX3_readWall_72 : decode cX3_readWall 72 = .ok (.iastore, 1) := by decide +kernel
theorem dX3_readWall_73 : decode cX3_readWall 73 = .ok (.aload_n 0, 1) := by decide +kernel
theorem dX3_readWall_74 : decode cX3_readWall 74 = .ok (.getfield 25, 3) := by decide +kernel
theorem dX3_readWall_77 : decode cX3_readWall 77 = .ok (.getfield 96, 3) := by decide +kernel
theorem dX3_readWall_80 : decode cX3_readWall 80 = .ok (.iload_n 1, 1) := by decide +kernel
theorem dX3_readWall_81 : decode cX3_readWall 81 = .ok (.iload_n 3, 1) := by decide +kernel
theorem dX3_readWall_82 : decode cX3_readWall 82 = .ok (.iastore, 1) := by decide +kernel
theorem dX3_readWall_83 : decode cX3_readWall 83 = .ok (.iconst 1, 1) := by decide +kernel
theorem dX3_readWall_84 : decode cX3_readWall 84 = .ok (.ireturn, 1) := by decide +kernel
set_option maxRecDepth 20000 in
theorem ggX3_readLaw_X3_step : GoodIn wsX3_readLaw wsX3_step := goodIn_r _ [7, 8, 9, 10, 11, 12, 13, 14, 15, 6, 16, 25, 26, 27, 28, 29, 30] (by decide +kernel) (by decide +kernel)
set_option maxRecDepth 20000 in
theorem gX3_readLaw_X3_step : GoodIn wsX3_readLaw (wsV RX3 29 RX3 yX3_step wsX3_step) := goodIn_app (goodIn_of _ (by decide +kernel)) ggX3_readLaw_X3_step
set_option maxRecDepth 20000 in
theorem ggX3_readLaw_X3_takeNumber : GoodIn wsX3_readLaw wsX3_takeNumber := goodIn_r _ [20, 12, 8, 9, 11, 3, 4, 5, 6, 7, 10, 13, 14, 15, 16, 25, 26, 27, 28, 29, 30] (by decide +kernel) (by decide +kernel)
set_option maxRecDepth 20000 in
theorem gX3_readLaw_X3_takeNumber : GoodIn wsX3_readLaw (wsV RX3 72 RX3 yX3_takeNumber wsX3_takeNumber) := goodIn_app (goodIn_of _ (by decide +kernel)) ggX3_readLaw_X3_takeNumber
set_option maxRecDepth 20000 in
theorem ggX3_readLaw_X3_takeEnd : GoodIn wsX3_readLaw wsX3_takeEnd := goodIn_r _ [24, 12, 11, 9, 3, 4, 5, 6, 7, 8, 10, 13, 14, 15, 16, 25, 26, 27, 28, 29, 30] (by decide +kernel) (by decide +kernel)
set_option maxRecDepth 20000 in
theorem gX3_readLaw_X3_takeEnd : GoodIn wsX3_readLaw (wsV RX3 84 RX3 yX3_takeEnd wsX3_takeEnd) := goodIn_app (goodIn_of _ (by decide +kernel)) ggX3_readLaw_X3_takeEnd
theorem dX3_readLaw_0 : decode cX3_readLaw 0 = .ok (.aload_n 0, 1) := by decide +kernel
theorem dX3_readLaw_1 : decode cX3_readLaw 1 = .ok (.invokevirtual 29, 3) := by decide +kernel
theorem dX3_readLaw_4 : decode cX3_readLaw 4 = .ok (.aload_n 0, 1) := by decide +kernel
theorem dX3_readLaw_5 : decode cX3_readLaw 5 = .ok (.getstatic 102, 3) := by decide +kernel
theorem dX3_readLaw_8 : decode cX3_readLaw 8 = .ok (.iload_n 1, 1) := by decide +kernel
theorem dX3_readLaw_9 : decode cX3_readLaw 9 = .ok (.iaload, 1) := by decide +kernel
theorem dX3_readLaw_10 : decode cX3_readLaw 10 = .ok (.invokevirtual 72, 3) := by decide +kernel
theorem dX3_readLaw_13 : decode cX3_readLaw 13 = .ok (.istore_n 2, 1) := by decide +kernel
theorem dX3_readLaw_14 : decode cX3_readLaw 14 = .ok (.iload_n 2, 1) := by decide +kernel
theorem dX3_readLaw_15 : decode cX3_readLaw 15 = .ok (.ifCond .lt 10, 3) := by decide +kernel
theorem dX3_readLaw_18 : decode cX3_readLaw 18 = .ok (.aload_n 0, 1) := by decide +kernel
theorem dX3_readLaw_19 : decode cX3_readLaw 19 = .ok (.invokevirtual 84, 3) := by decide +kernel
theorem dX3_readLaw_22 : decode cX3_readLaw 22 = .ok (.ifCond .ne 5, 3) := by decide +kernel
theorem dX3_readLaw_25 : decode cX3_readLaw 25 = .ok (.iconst 0, 1) := by decide +kernel
theorem dX3_readLaw_26 : decode cX3_readLaw 26 = .ok (.ireturn, 1) := by decide +kernel
theorem dX3_readLaw_27 : decode cX3_readLaw 27 = .ok (.aload_n 0, 1) := by decide +kernel
theorem dX3_readLaw_28 : decode cX3_readLaw 28 = .ok (.getfield 25, 3) := by decide +kernel
theorem dX3_readLaw_31 : decode cX3_readLaw 31 = .ok (.getfield 105, 3) := by decide +kernel
theorem dX3_readLaw_34 : decode cX3_readLaw 34 = .ok (.iload_n 1, 1) := by decide +kernel
theorem dX3_readLaw_35 : decode cX3_readLaw 35 = .ok (.iload_n 2, 1) := by decide +kernel
theorem dX3_readLaw_36 : decode cX3_readLaw 36 = .ok (.iastore, 1) := by decide +kernel
theorem dX3_readLaw_37 : decode cX3_readLaw 37 = .ok (.iconst 1, 1) := by decide +kernel
theorem dX3_readLaw_38 : decode cX3_readLaw 38 = .ok (.ireturn, 1) := by decide +kernel
set_option maxRecDepth 20000 in
theorem ggX3_kindTold_X3_isWord : GoodIn wsX3_kindTold wsX3_isWord := goodIn_r _ [5, 6, 7, 8, 9, 10, 11, 12, 13, 14, 15, 16, 17, 18, 19, 20, 21, 22, 23, 24, 25, 26, 27, 28, 29, 30, 31, 32, 33, 34, 35, 36, 37, 38, 39, 40, 41, 42, 43, 44, 45, 46, 47, 48, 49, 50, 51, 52, 53, 54, 55, 56, 57, 58, 59, 60, 61, 62, 63, 64] (by decide +kernel) (by decide +kernel)
set_option maxRecDepth 20000 in
theorem gX3_kindTold_X3_isWord : GoodIn wsX3_kindTold (wsV RX3 51 RX3 yX3_isWord wsX3_isWord) := goodIn_app (goodIn_of _ (by decide +kernel)) ggX3_kindTold_X3_isWord
theorem dX3_kindTold_0 : decode cX3_kindTold 0 = .ok (.aload_n 0, 1) := by decide +kernel
theorem dX3_kindTold_1 : decode cX3_kindTold 1 = .ok (.ldc 108, 2) := by decide +kernel
theorem dX3_kindTold_3 : decode cX3_kindTold 3 = .ok (.invokevirtual 51, 3) := by decide +kernel
theorem dX3_kindTold_6 : decode cX3_kindTold 6 = .ok (.ifCond .eq 5, 3) := by decide +kernel
theorem dX3_kindTold_9 : decode cX3_kindTold 9 = .ok (.iconst 0, 1) := by decide +kernel
theorem dX3_kindTold_10 : decode cX3_kindTold 10 = .ok (.ireturn, 1) := by decide +kernel
theorem dX3_kindTold_11 : decode cX3_kindTold 11 = .ok (.aload_n 0, 1) := by decide +kernel
theorem dX3_kindTold_12 : decode cX3_kindTold 12 = .ok (.ldc 110, 2) := by decide +kernel
theorem dX3_kindTold_14 : decode cX3_kindTold 14 = .ok (.invokevirtual 51, 3) := by decide +kernel
theorem dX3_kindTold_17 : decode cX3_kindTold 17 = .ok (.ifCond .eq 5, 3) := by decide +kernel
theorem dX3_kindTold_20 : decode cX3_kindTold 20 = .ok (.iconst 1, 1) := by decide +kernel
theorem dX3_kindTold_21 : decode cX3_kindTold 21 = .ok (.ireturn, 1) := by decide +kernel
theorem dX3_kindTold_22 : decode cX3_kindTold 22 = .ok (.aload_n 0, 1) := by decide +kernel
theorem dX3_kindTold_23 : decode cX3_kindTold 23 = .ok (.ldc 112, 2) := by decide +kernel
theorem dX3_kindTold_25 : decode cX3_kindTold 25 = .ok (.invokevirtual 51, 3) := by decide +kernel
theorem dX3_kindTold_28 : decode cX3_kindTold 28 = .ok (.ifCond .eq 5, 3) := by decide +kernel
theorem dX3_kindTold_31 : decode cX3_kindTold 31 = .ok (.iconst 2, 1) := by decide +kernel
theorem dX3_kindTold_32 : decode cX3_kindTold 32 = .ok (.ireturn, 1) := by decide +kernel
theorem dX3_kindTold_33 : decode cX3_kindTold 33 = .ok (.aload_n 0, 1) := by decide +kernel
theorem dX3_kindTold_34 : decode cX3_kindTold 34 = .ok (.ldc 114, 2) := by decide +kernel
theorem dX3_kindTold_36 : decode cX3_kindTold 36 = .ok (.invokevirtual 51, 3) := by decide +kernel
theorem dX3_kindTold_39 : decode cX3_kindTold 39 = .ok (.ifCond .eq 5, 3) := by decide +kernel
theorem dX3_kindTold_42 : decode cX3_kindTold 42 = .ok (.iconst 3, 1) := by decide +kernel
theorem dX3_kindTold_43 : decode cX3_kindTold 43 = .ok (.ireturn, 1) := by decide +kernel
theorem dX3_kindTold_44 : decode cX3_kindTold 44 = .ok (.aload_n 0, 1) := by decide +kernel
theorem dX3_kindTold_45 : decode cX3_kindTold 45 = .ok (.ldc 116, 2) := by decide +kernel
theorem dX3_kindTold_47 : decode cX3_kindTold 47 = .ok (.invokevirtual 51, 3) := by decide +kernel
theorem dX3_kindTold_50 : decode cX3_kindTold 50 = .ok (.ifCond .eq 5, 3) := by decide +kernel
theorem dX3_kindTold_53 : decode cX3_kindTold 53 = .ok (.iconst 4, 1) := by decide +kernel
theorem dX3_kindTold_54 : decode cX3_kindTold 54 = .ok (.ireturn, 1) := by decide +kernel
theorem dX3_kindTold_55 : decode cX3_kindTold 55 = .ok (.aload_n 0, 1) := by decide +kernel
theorem dX3_kindTold_56 : decode cX3_kindTold 56 = .ok (.ldc 118, 2) := by decide +kernel
theorem dX3_kindTold_58 : decode cX3_kindTold 58 = .ok (.invokevirtual 51, 3) := by decide +kernel
theorem dX3_kindTold_61 : decode cX3_kindTold 61 = .ok (.ifCond .eq 7, 3) := by decide +kernel
theorem dX3_kindTold_64 : decode cX3_kindTold 64 = .ok (.iconst 5, 1) := by decide +kernel
theorem dX3_kindTold_65 : decode cX3_kindTold 65 = .ok (.goto 4, 3) := by decide +kernel
theorem dX3_kindTold_68 : decode cX3_kindTold 68 = .ok (.iconst (-1), 1) := by decide +kernel
theorem dX3_kindTold_69 : decode cX3_kindTold 69 = .ok (.ireturn, 1) := by decide +kernel
set_option maxRecDepth 20000 in
theorem ggX3_groundTold_X3_isWord : GoodIn wsX3_groundTold wsX3_isWord := goodIn_r _ [5, 6, 7, 8, 9, 10, 11, 12, 13, 14, 15, 16, 17, 18, 19, 20, 21, 22, 23, 24, 25, 26, 27, 28, 29, 30, 31, 32, 33, 34, 35, 36, 37, 38, 39, 40, 41, 42, 43, 44, 45, 46, 47, 48, 49, 50, 51, 52, 53, 54, 55, 56, 57, 58, 59, 60, 61, 62, 63, 64] (by decide +kernel) (by decide +kernel)
set_option maxRecDepth 20000 in
theorem gX3_groundTold_X3_isWord : GoodIn wsX3_groundTold (wsV RX3 51 RX3 yX3_isWord wsX3_isWord) := goodIn_app (goodIn_of _ (by decide +kernel)) ggX3_groundTold_X3_isWord
theorem dX3_groundTold_0 : decode cX3_groundTold 0 = .ok (.aload_n 0, 1) := by decide +kernel
theorem dX3_groundTold_1 : decode cX3_groundTold 1 = .ok (.ldc 120, 2) := by decide +kernel
theorem dX3_groundTold_3 : decode cX3_groundTold 3 = .ok (.invokevirtual 51, 3) := by decide +kernel
theorem dX3_groundTold_6 : decode cX3_groundTold 6 = .ok (.ifCond .eq 5, 3) := by decide +kernel
theorem dX3_groundTold_9 : decode cX3_groundTold 9 = .ok (.iconst 0, 1) := by decide +kernel
theorem dX3_groundTold_10 : decode cX3_groundTold 10 = .ok (.ireturn, 1) := by decide +kernel
theorem dX3_groundTold_11 : decode cX3_groundTold 11 = .ok (.aload_n 0, 1) := by decide +kernel
theorem dX3_groundTold_12 : decode cX3_groundTold 12 = .ok (.ldc 122, 2) := by decide +kernel
theorem dX3_groundTold_14 : decode cX3_groundTold 14 = .ok (.invokevirtual 51, 3) := by decide +kernel
theorem dX3_groundTold_17 : decode cX3_groundTold 17 = .ok (.ifCond .eq 5, 3) := by decide +kernel
theorem dX3_groundTold_20 : decode cX3_groundTold 20 = .ok (.iconst 1, 1) := by decide +kernel
theorem dX3_groundTold_21 : decode cX3_groundTold 21 = .ok (.ireturn, 1) := by decide +kernel
theorem dX3_groundTold_22 : decode cX3_groundTold 22 = .ok (.aload_n 0, 1) := by decide +kernel
theorem dX3_groundTold_23 : decode cX3_groundTold 23 = .ok (.ldc 124, 2) := by decide +kernel
theorem dX3_groundTold_25 : decode cX3_groundTold 25 = .ok (.invokevirtual 51, 3) := by decide +kernel
theorem dX3_groundTold_28 : decode cX3_groundTold 28 = .ok (.ifCond .eq 7, 3) := by decide +kernel
theorem dX3_groundTold_31 : decode cX3_groundTold 31 = .ok (.iconst 2, 1) := by decide +kernel
theorem dX3_groundTold_32 : decode cX3_groundTold 32 = .ok (.goto 4, 3) := by decide +kernel
theorem dX3_groundTold_35 : decode cX3_groundTold 35 = .ok (.iconst (-1), 1) := by decide +kernel
theorem dX3_groundTold_36 : decode cX3_groundTold 36 = .ok (.ireturn, 1) := by decide +kernel
set_option maxRecDepth 20000 in
theorem ggX3_lawTold_X3_isWord : GoodIn wsX3_lawTold wsX3_isWord := goodIn_r _ [5, 6, 7, 8, 9, 10, 11, 12, 13, 14, 15, 16, 17, 18, 19, 20, 21, 22, 23, 24, 25, 26, 27, 28, 29, 30, 31, 32, 33, 34, 35, 36, 37, 38, 39, 40, 41, 42, 43, 44, 45, 46, 47, 48, 49, 50, 51, 52, 53, 54, 55, 56, 57, 58, 59, 60, 61, 62, 63, 64] (by decide +kernel) (by decide +kernel)
set_option maxRecDepth 20000 in
theorem gX3_lawTold_X3_isWord : GoodIn wsX3_lawTold (wsV RX3 51 RX3 yX3_isWord wsX3_isWord) := goodIn_app (goodIn_of _ (by decide +kernel)) ggX3_lawTold_X3_isWord
theorem dX3_lawTold_0 : decode cX3_lawTold 0 = .ok (.aload_n 0, 1) := by decide +kernel
theorem dX3_lawTold_1 : decode cX3_lawTold 1 = .ok (.ldc 126, 2) := by decide +kernel
theorem dX3_lawTold_3 : decode cX3_lawTold 3 = .ok (.invokevirtual 51, 3) := by decide +kernel
theorem dX3_lawTold_6 : decode cX3_lawTold 6 = .ok (.ifCond .eq 5, 3) := by decide +kernel
theorem dX3_lawTold_9 : decode cX3_lawTold 9 = .ok (.iconst 0, 1) := by decide +kernel
theorem dX3_lawTold_10 : decode cX3_lawTold 10 = .ok (.ireturn, 1) := by decide +kernel
theorem dX3_lawTold_11 : decode cX3_lawTold 11 = .ok (.aload_n 0, 1) := by decide +kernel
theorem dX3_lawTold_12 : decode cX3_lawTold 12 = .ok (.ldc 128, 2) := by decide +kernel
theorem dX3_lawTold_14 : decode cX3_lawTold 14 = .ok (.invokevirtual 51, 3) := by decide +kernel
theorem dX3_lawTold_17 : decode cX3_lawTold 17 = .ok (.ifCond .eq 5, 3) := by decide +kernel
theorem dX3_lawTold_20 : decode cX3_lawTold 20 = .ok (.iconst 1, 1) := by decide +kernel
theorem dX3_lawTold_21 : decode cX3_lawTold 21 = .ok (.ireturn, 1) := by decide +kernel
theorem dX3_lawTold_22 : decode cX3_lawTold 22 = .ok (.aload_n 0, 1) := by decide +kernel
theorem dX3_lawTold_23 : decode cX3_lawTold 23 = .ok (.ldc 130, 2) := by decide +kernel
theorem dX3_lawTold_25 : decode cX3_lawTold 25 = .ok (.invokevirtual 51, 3) := by decide +kernel
theorem dX3_lawTold_28 : decode cX3_lawTold 28 = .ok (.ifCond .eq 5, 3) := by decide +kernel
theorem dX3_lawTold_31 : decode cX3_lawTold 31 = .ok (.iconst 2, 1) := by decide +kernel
theorem dX3_lawTold_32 : decode cX3_lawTold 32 = .ok (.ireturn, 1) := by decide +kernel
theorem dX3_lawTold_33 : decode cX3_lawTold 33 = .ok (.aload_n 0, 1) := by decide +kernel
theorem dX3_lawTold_34 : decode cX3_lawTold 34 = .ok (.ldc 132, 2) := by decide +kernel
theorem dX3_lawTold_36 : decode cX3_lawTold 36 = .ok (.invokevirtual 51, 3) := by decide +kernel
theorem dX3_lawTold_39 : decode cX3_lawTold 39 = .ok (.ifCond .eq 7, 3) := by decide +kernel
theorem dX3_lawTold_42 : decode cX3_lawTold 42 = .ok (.iconst 3, 1) := by decide +kernel
theorem dX3_lawTold_43 : decode cX3_lawTold 43 = .ok (.goto 4, 3) := by decide +kernel
theorem dX3_lawTold_46 : decode cX3_lawTold 46 = .ok (.iconst (-1), 1) := by decide +kernel
theorem dX3_lawTold_47 : decode cX3_lawTold 47 = .ok (.ireturn, 1) := by decide +kernel
set_option maxRecDepth 20000 in
theorem ggX3_takeWord_X3_isWord : GoodIn wsX3_takeWord wsX3_isWord := goodIn_r _ [5, 6, 7, 8, 9, 10, 11, 12, 13, 14, 15, 16, 17, 18, 19, 20, 21, 22, 23, 24, 25, 26, 27, 28, 29, 30, 31, 32, 33, 34, 35, 36, 37, 38, 39, 40, 41, 42, 43, 44, 45, 46, 47, 48, 49, 50, 51, 52, 53, 54, 55, 56, 57, 58, 68, 69, 70, 71, 72, 73] (by decide +kernel) (by decide +kernel)
set_option maxRecDepth 20000 in
theorem gX3_takeWord_X3_isWord : GoodIn wsX3_takeWord (wsV RX3 51 RX3 yX3_isWord wsX3_isWord) := goodIn_app (goodIn_of _ (by decide +kernel)) ggX3_takeWord_X3_isWord
set_option maxRecDepth 20000 in
theorem ggX3_takeWord_X3_step : GoodIn wsX3_takeWord wsX3_step := goodIn_r _ [62, 7, 8, 63, 9, 6, 64, 65, 66, 4, 67, 68, 69, 70, 71, 72, 73] (by decide +kernel) (by decide +kernel)
set_option maxRecDepth 20000 in
theorem gX3_takeWord_X3_step : GoodIn wsX3_takeWord (wsV RX3 29 RX3 yX3_step wsX3_step) := goodIn_app (goodIn_of _ (by decide +kernel)) ggX3_takeWord_X3_step
theorem dX3_takeWord_0 : decode cX3_takeWord 0 = .ok (.aload_n 0, 1) := by decide +kernel
theorem dX3_takeWord_1 : decode cX3_takeWord 1 = .ok (.aload_n 1, 1) := by decide +kernel
theorem dX3_takeWord_2 : decode cX3_takeWord 2 = .ok (.invokevirtual 51, 3) := by decide +kernel
theorem dX3_takeWord_5 : decode cX3_takeWord 5 = .ok (.ifCond .ne 5, 3) := by decide +kernel
theorem dX3_takeWord_8 : decode cX3_takeWord 8 = .ok (.iconst 0, 1) := by decide +kernel
theorem dX3_takeWord_9 : decode cX3_takeWord 9 = .ok (.ireturn, 1) := by decide +kernel
theorem dX3_takeWord_10 : decode cX3_takeWord 10 = .ok (.aload_n 0, 1) := by decide +kernel
theorem dX3_takeWord_11 : decode cX3_takeWord 11 = .ok (.invokevirtual 29, 3) := by decide +kernel
theorem dX3_takeWord_14 : decode cX3_takeWord 14 = .ok (.iconst 1, 1) := by decide +kernel
theorem dX3_takeWord_15 : decode cX3_takeWord 15 = .ok (.ireturn, 1) := by decide +kernel
set_option maxRecDepth 20000 in
theorem ggX3_takeNumber_X3_step : GoodIn wsX3_takeNumber wsX3_step := goodIn_r _ [9, 2, 3, 10, 4, 1, 11, 12, 13, 8, 14, 15, 16, 17, 18, 19, 20] (by decide +kernel) (by decide +kernel)
set_option maxRecDepth 20000 in
theorem gX3_takeNumber_X3_step : GoodIn wsX3_takeNumber (wsV RX3 29 RX3 yX3_step wsX3_step) := goodIn_app (goodIn_of _ (by decide +kernel)) ggX3_takeNumber_X3_step
theorem dX3_takeNumber_0 : decode cX3_takeNumber 0 = .ok (.aload_n 0, 1) := by decide +kernel
theorem dX3_takeNumber_1 : decode cX3_takeNumber 1 = .ok (.getfield 32, 3) := by decide +kernel
theorem dX3_takeNumber_4 : decode cX3_takeNumber 4 = .ok (.iconst 2, 1) := by decide +kernel
theorem dX3_takeNumber_5 : decode cX3_takeNumber 5 = .ok (.if_icmp .ne 16, 3) := by decide +kernel
theorem dX3_takeNumber_8 : decode cX3_takeNumber 8 = .ok (.aload_n 0, 1) := by decide +kernel
theorem dX3_takeNumber_9 : decode cX3_takeNumber 9 = .ok (.getfield 134, 3) := by decide +kernel
theorem dX3_takeNumber_12 : decode cX3_takeNumber 12 = .ok (.aload_n 0, 1) := by decide +kernel
theorem dX3_takeNumber_13 : decode cX3_takeNumber 13 = .ok (.getfield 59, 3) := by decide +kernel
theorem dX3_takeNumber_16 : decode cX3_takeNumber 16 = .ok (.isub, 1) := by decide +kernel
theorem dX3_takeNumber_17 : decode cX3_takeNumber 17 = .ok (.iconst 3, 1) := by decide +kernel
theorem dX3_takeNumber_18 : decode cX3_takeNumber 18 = .ok (.if_icmp .le 5, 3) := by decide +kernel
theorem dX3_takeNumber_21 : decode cX3_takeNumber 21 = .ok (.iconst (-1), 1) := by decide +kernel
theorem dX3_takeNumber_22 : decode cX3_takeNumber 22 = .ok (.ireturn, 1) := by decide +kernel
theorem dX3_takeNumber_23 : decode cX3_takeNumber 23 = .ok (.iconst 0, 1) := by decide +kernel
theorem dX3_takeNumber_24 : decode cX3_takeNumber 24 = .ok (.istore_n 2, 1) := by decide +kernel
theorem dX3_takeNumber_25 : decode cX3_takeNumber 25 = .ok (.aload_n 0, 1) := by decide +kernel
theorem dX3_takeNumber_26 : decode cX3_takeNumber 26 = .ok (.getfield 59, 3) := by decide +kernel
theorem dX3_takeNumber_29 : decode cX3_takeNumber 29 = .ok (.istore_n 3, 1) := by decide +kernel
theorem dX3_takeNumber_30 : decode cX3_takeNumber 30 = .ok (.iload_n 3, 1) := by decide +kernel
theorem dX3_takeNumber_31 : decode cX3_takeNumber 31 = .ok (.aload_n 0, 1) := by decide +kernel
theorem dX3_takeNumber_32 : decode cX3_takeNumber 32 = .ok (.getfield 134, 3) := by decide +kernel
theorem dX3_takeNumber_35 : decode cX3_takeNumber 35 = .ok (.if_icmp .ge 24, 3) := by decide +kernel
theorem dX3_takeNumber_38 : decode cX3_takeNumber 38 = .ok (.iload_n 2, 1) := by decide +kernel
theorem dX3_takeNumber_39 : decode cX3_takeNumber 39 = .ok (.bipush 10, 2) := by decide +kernel
theorem dX3_takeNumber_41 : decode cX3_takeNumber 41 = .ok (.imul, 1) := by decide +kernel
theorem dX3_takeNumber_42 : decode cX3_takeNumber 42 = .ok (.aload_n 0, 1) := by decide +kernel
theorem dX3_takeNumber_43 : decode cX3_takeNumber 43 = .ok (.getfield 9, 3) := by decide +kernel
theorem dX3_takeNumber_46 : decode cX3_takeNumber 46 = .ok (.iload_n 3, 1) := by decide +kernel
theorem dX3_takeNumber_47 : decode cX3_takeNumber 47 = .ok (.baload, 1) := by decide +kernel
theorem dX3_takeNumber_48 : decode cX3_takeNumber 48 = .ok (.iadd, 1) := by decide +kernel
theorem dX3_takeNumber_49 : decode cX3_takeNumber 49 = .ok (.bipush 48, 2) := by decide +kernel
theorem dX3_takeNumber_51 : decode cX3_takeNumber 51 = .ok (.isub, 1) := by decide +kernel
theorem dX3_takeNumber_52 : decode cX3_takeNumber 52 = .ok (.istore_n 2, 1) := by decide +kernel
theorem dX3_takeNumber_53 : decode cX3_takeNumber 53 = .ok (.iinc 3 1, 3) := by decide +kernel
theorem dX3_takeNumber_56 : decode cX3_takeNumber 56 = .ok (.goto (-26), 3) := by decide +kernel
theorem dX3_takeNumber_59 : decode cX3_takeNumber 59 = .ok (.iload_n 2, 1) := by decide +kernel
theorem dX3_takeNumber_60 : decode cX3_takeNumber 60 = .ok (.iload_n 1, 1) := by decide +kernel
theorem dX3_takeNumber_61 : decode cX3_takeNumber 61 = .ok (.if_icmp .le 5, 3) := by decide +kernel
theorem dX3_takeNumber_64 : decode cX3_takeNumber 64 = .ok (.iconst (-1), 1) := by decide +kernel
theorem dX3_takeNumber_65 : decode cX3_takeNumber 65 = .ok (.ireturn, 1) := by decide +kernel
theorem dX3_takeNumber_66 : decode cX3_takeNumber 66 = .ok (.aload_n 0, 1) := by decide +kernel
theorem dX3_takeNumber_67 : decode cX3_takeNumber 67 = .ok (.invokevirtual 29, 3) := by decide +kernel
theorem dX3_takeNumber_70 : decode cX3_takeNumber 70 = .ok (.iload_n 2, 1) := by decide +kernel
theorem dX3_takeNumber_71 : decode cX3_takeNumber 71 = .ok (.ireturn, 1) := by decide +kernel
set_option maxRecDepth 20000 in
theorem ggX3_takeOption_X3_takeWord : GoodIn wsX3_takeOption wsX3_takeWord := goodIn_r _ [5, 6, 7, 8, 4, 9, 10, 11, 12, 13, 14, 15, 16, 17, 18, 19, 20, 21, 22, 23, 24, 25, 26, 27, 28, 29, 30, 31, 32, 33, 34, 35, 36, 37, 38, 39, 40, 41, 42, 43, 44, 45, 46, 47, 48, 49, 50, 51, 52, 53, 54, 55, 56, 57, 58, 59, 60, 61, 62, 63, 64, 65, 66, 67, 68, 69, 70, 71, 76, 77, 78, 79, 80, 81] (by decide +kernel) (by decide +kernel)
set_option maxRecDepth 20000 in
theorem gX3_takeOption_X3_takeWord : GoodIn wsX3_takeOption (wsV RX3 69 RX3 yX3_takeWord wsX3_takeWord) := goodIn_app (goodIn_of _ (by decide +kernel)) ggX3_takeOption_X3_takeWord
set_option maxRecDepth 20000 in
theorem ggX3_takeOption_X3_takeNumber : GoodIn wsX3_takeOption wsX3_takeNumber := goodIn_r _ [75, 10, 11, 12, 13, 63, 64, 65, 4, 66, 67, 68, 69, 70, 71, 76, 77, 78, 79, 80, 81] (by decide +kernel) (by decide +kernel)
set_option maxRecDepth 20000 in
theorem gX3_takeOption_X3_takeNumber : GoodIn wsX3_takeOption (wsV RX3 72 RX3 yX3_takeNumber wsX3_takeNumber) := goodIn_app (goodIn_of _ (by decide +kernel)) ggX3_takeOption_X3_takeNumber
theorem dX3_takeOption_0 : decode cX3_takeOption 0 = .ok (.aload_n 0, 1) := by decide +kernel
theorem dX3_takeOption_1 : decode cX3_takeOption 1 = .ok (.aload_n 1, 1) := by decide +kernel
theorem dX3_takeOption_2 : decode cX3_takeOption 2 = .ok (.invokevirtual 69, 3) := by decide +kernel
theorem dX3_takeOption_5 : decode cX3_takeOption 5 = .ok (.ifCond .eq 11, 3) := by decide +kernel
theorem dX3_takeOption_8 : decode cX3_takeOption 8 = .ok (.aload_n 0, 1) := by decide +kernel
theorem dX3_takeOption_9 : decode cX3_takeOption 9 = .ok (.iload_n 2, 1) := by decide +kernel
theorem dX3_takeOption_10 : decode cX3_takeOption 10 = .ok (.invokevirtual 72, 3) := by decide +kernel
theorem dX3_takeOption_13 : decode cX3_takeOption 13 = .ok (.goto 4, 3) := by decide +kernel
theorem dX3_takeOption_16 : decode cX3_takeOption 16 = .ok (.iload_n 3, 1) := by decide +kernel
theorem dX3_takeOption_17 : decode cX3_takeOption 17 = .ok (.ireturn, 1) := by decide +kernel
set_option maxRecDepth 20000 in
theorem ggX3_takeEnd_X3_step : GoodIn wsX3_takeEnd wsX3_step := goodIn_r _ [8, 9, 3, 10, 2, 1, 11, 12, 13, 7, 14, 15, 16, 17, 18, 19, 20] (by decide +kernel) (by decide +kernel)
set_option maxRecDepth 20000 in
theorem gX3_takeEnd_X3_step : GoodIn wsX3_takeEnd (wsV RX3 29 RX3 yX3_step wsX3_step) := goodIn_app (goodIn_of _ (by decide +kernel)) ggX3_takeEnd_X3_step
theorem dX3_takeEnd_0 : decode cX3_takeEnd 0 = .ok (.aload_n 0, 1) := by decide +kernel
theorem dX3_takeEnd_1 : decode cX3_takeEnd 1 = .ok (.getfield 32, 3) := by decide +kernel
theorem dX3_takeEnd_4 : decode cX3_takeEnd 4 = .ok (.iconst 3, 1) := by decide +kernel
theorem dX3_takeEnd_5 : decode cX3_takeEnd 5 = .ok (.if_icmp .ne 17, 3) := by decide +kernel
theorem dX3_takeEnd_8 : decode cX3_takeEnd 8 = .ok (.aload_n 0, 1) := by decide +kernel
theorem dX3_takeEnd_9 : decode cX3_takeEnd 9 = .ok (.getfield 9, 3) := by decide +kernel
theorem dX3_takeEnd_12 : decode cX3_takeEnd 12 = .ok (.aload_n 0, 1) := by decide +kernel
theorem dX3_takeEnd_13 : decode cX3_takeEnd 13 = .ok (.getfield 59, 3) := by decide +kernel
theorem dX3_takeEnd_16 : decode cX3_takeEnd 16 = .ok (.baload, 1) := by decide +kernel
theorem dX3_takeEnd_17 : decode cX3_takeEnd 17 = .ok (.bipush 59, 2) := by decide +kernel
theorem dX3_takeEnd_19 : decode cX3_takeEnd 19 = .ok (.if_icmp .eq 5, 3) := by decide +kernel
theorem dX3_takeEnd_22 : decode cX3_takeEnd 22 = .ok (.iconst 0, 1) := by decide +kernel
theorem dX3_takeEnd_23 : decode cX3_takeEnd 23 = .ok (.ireturn, 1) := by decide +kernel
theorem dX3_takeEnd_24 : decode cX3_takeEnd 24 = .ok (.aload_n 0, 1) := by decide +kernel
theorem dX3_takeEnd_25 : decode cX3_takeEnd 25 = .ok (.invokevirtual 29, 3) := by decide +kernel
theorem dX3_takeEnd_28 : decode cX3_takeEnd 28 = .ok (.iconst 1, 1) := by decide +kernel
theorem dX3_takeEnd_29 : decode cX3_takeEnd 29 = .ok (.ireturn, 1) := by decide +kernel
set_option maxRecDepth 20000 in
theorem ggX3_isWord_J0_length_8abf5 : GoodIn wsX3_isWord wsJ0_length_8abf5 := goodIn_r _ [9, 10, 11, 12, 13, 8, 14, 15, 16] (by decide +kernel) (by decide +kernel)
set_option maxRecDepth 20000 in
theorem gX3_isWord_J0_length_8abf5 : GoodIn wsX3_isWord (wsV RX3 137 RJ0 yJ0_length_8abf5 wsJ0_length_8abf5) := goodIn_app (goodIn_of _ (by decide +kernel)) ggX3_isWord_J0_length_8abf5
set_option maxRecDepth 20000 in
theorem ggX3_isWord_J0_charAt_5068e : GoodIn wsX3_isWord wsJ0_charAt_5068e := goodIn_r _ [20, 10, 21, 22, 23, 8, 24, 15, 16, 25, 26, 27, 28, 29, 30, 31, 32, 33, 34, 35, 36, 37, 38, 39, 40, 41, 42, 43, 44, 45, 46, 47, 48, 49, 50, 51, 52, 53] (by decide +kernel) (by decide +kernel)
set_option maxRecDepth 20000 in
theorem gX3_isWord_J0_charAt_5068e : GoodIn wsX3_isWord (wsV RX3 141 RJ0 yJ0_charAt_5068e wsJ0_charAt_5068e) := goodIn_app (goodIn_of _ (by decide +kernel)) ggX3_isWord_J0_charAt_5068e
theorem dX3_isWord_0 : decode cX3_isWord 0 = .ok (.aload_n 0, 1) := by decide +kernel
theorem dX3_isWord_1 : decode cX3_isWord 1 = .ok (.getfield 32, 3) := by decide +kernel
theorem dX3_isWord_4 : decode cX3_isWord 4 = .ok (.iconst 1, 1) := by decide +kernel
theorem dX3_isWord_5 : decode cX3_isWord 5 = .ok (.if_icmp .ne 19, 3) := by decide +kernel
theorem dX3_isWord_8 : decode cX3_isWord 8 = .ok (.aload_n 0, 1) := by decide +kernel
theorem dX3_isWord_9 : decode cX3_isWord 9 = .ok (.getfield 134, 3) := by decide +kernel
theorem dX3_isWord_12 : decode cX3_isWord 12 = .ok (.aload_n 0, 1) := by decide +kernel
theorem dX3_isWord_13 : decode cX3_isWord 13 = .ok (.getfield 59, 3) := by decide +kernel
theorem dX3_isWord_16 : decode cX3_isWord 16 = .ok (.isub, 1) := by decide +kernel
theorem dX3_isWord_17 : decode cX3_isWord 17 = .ok (.aload_n 1, 1) := by decide +kernel
theorem dX3_isWord_18 : decode cX3_isWord 18 = .ok (.invokevirtual 137, 3) := by decide +kernel
theorem dX3_isWord_21 : decode cX3_isWord 21 = .ok (.if_icmp .eq 5, 3) := by decide +kernel
theorem dX3_isWord_24 : decode cX3_isWord 24 = .ok (.iconst 0, 1) := by decide +kernel
theorem dX3_isWord_25 : decode cX3_isWord 25 = .ok (.ireturn, 1) := by decide +kernel
theorem dX3_isWord_26 : decode cX3_isWord 26 = .ok (.iconst 0, 1) := by decide +kernel
theorem dX3_isWord_27 : decode cX3_isWord 27 = .ok (.istore_n 2, 1) := by decide +kernel
theorem dX3_isWord_28 : decode cX3_isWord 28 = .ok (.iload_n 2, 1) := by decide +kernel
theorem dX3_isWord_29 : decode cX3_isWord 29 = .ok (.aload_n 1, 1) := by decide +kernel
theorem dX3_isWord_30 : decode cX3_isWord 30 = .ok (.invokevirtual 137, 3) := by decide +kernel
theorem dX3_isWord_33 : decode cX3_isWord 33 = .ok (.if_icmp .ge 30, 3) := by decide +kernel
theorem dX3_isWord_36 : decode cX3_isWord 36 = .ok (.aload_n 0, 1) := by decide +kernel
theorem dX3_isWord_37 : decode cX3_isWord 37 = .ok (.getfield 9, 3) := by decide +kernel
theorem dX3_isWord_40 : decode cX3_isWord 40 = .ok (.aload_n 0, 1) := by decide +kernel
theorem dX3_isWord_41 : decode cX3_isWord 41 = .ok (.getfield 59, 3) := by decide +kernel
theorem dX3_isWord_44 : decode cX3_isWord 44 = .ok (.iload_n 2, 1) := by decide +kernel
theorem dX3_isWord_45 : decode cX3_isWord 45 = .ok (.iadd, 1) := by decide +kernel
theorem dX3_isWord_46 : decode cX3_isWord 46 = .ok (.baload, 1) := by decide +kernel
theorem dX3_isWord_47 : decode cX3_isWord 47 = .ok (.aload_n 1, 1) := by decide +kernel
theorem dX3_isWord_48 : decode cX3_isWord 48 = .ok (.iload_n 2, 1) := by decide +kernel
theorem dX3_isWord_49 : decode cX3_isWord 49 = .ok (.invokevirtual 141, 3) := by decide +kernel
theorem dX3_isWord_52 : decode cX3_isWord 52 = .ok (.if_icmp .eq 5, 3) := by decide +kernel
theorem dX3_isWord_55 : decode cX3_isWord 55 = .ok (.iconst 0, 1) := by decide +kernel
theorem dX3_isWord_56 : decode cX3_isWord 56 = .ok (.ireturn, 1) := by decide +kernel
theorem dX3_isWord_57 : decode cX3_isWord 57 = .ok (.iinc 2 1, 3) := by decide +kernel
theorem dX3_isWord_60 : decode cX3_isWord 60 = .ok (.goto (-32), 3) := by decide +kernel
theorem dX3_isWord_63 : decode cX3_isWord 63 = .ok (.iconst 1, 1) := by decide +kernel
theorem dX3_isWord_64 : decode cX3_isWord 64 = .ok (.ireturn, 1) := by decide +kernel
set_option maxRecDepth 20000 in
theorem ggX3_step_X3_sortAt : GoodIn wsX3_step wsX3_sortAt := goodIn_r _ [10, 3, 4, 11, 12, 13, 14, 15, 16] (by decide +kernel) (by decide +kernel)
set_option maxRecDepth 20000 in
theorem gX3_step_X3_sortAt : GoodIn wsX3_step (wsV RX3 145 RX3 yX3_sortAt wsX3_sortAt) := goodIn_app (goodIn_of _ (by decide +kernel)) ggX3_step_X3_sortAt
theorem dX3_step_0 : decode cX3_step 0 = .ok (.aload_n 0, 1) := by decide +kernel
theorem dX3_step_1 : decode cX3_step 1 = .ok (.aload_n 0, 1) := by decide +kernel
theorem dX3_step_2 : decode cX3_step 2 = .ok (.getfield 134, 3) := by decide +kernel
theorem dX3_step_5 : decode cX3_step 5 = .ok (.putfield 59, 3) := by decide +kernel
theorem dX3_step_8 : decode cX3_step 8 = .ok (.aload_n 0, 1) := by decide +kernel
theorem dX3_step_9 : decode cX3_step 9 = .ok (.getfield 59, 3) := by decide +kernel
theorem dX3_step_12 : decode cX3_step 12 = .ok (.aload_n 0, 1) := by decide +kernel
theorem dX3_step_13 : decode cX3_step 13 = .ok (.getfield 21, 3) := by decide +kernel
theorem dX3_step_16 : decode cX3_step 16 = .ok (.if_icmp .ge 30, 3) := by decide +kernel
theorem dX3_step_19 : decode cX3_step 19 = .ok (.aload_n 0, 1) := by decide +kernel
theorem dX3_step_20 : decode cX3_step 20 = .ok (.getfield 9, 3) := by decide +kernel
theorem dX3_step_23 : decode cX3_step 23 = .ok (.aload_n 0, 1) := by decide +kernel
theorem dX3_step_24 : decode cX3_step 24 = .ok (.getfield 59, 3) := by decide +kernel
theorem dX3_step_27 : decode cX3_step 27 = .ok (.baload, 1) := by decide +kernel
theorem dX3_step_28 : decode cX3_step 28 = .ok (.bipush 32, 2) := by decide +kernel
theorem dX3_step_30 : decode cX3_step 30 = .ok (.if_icmp .ne 16, 3) := by decide +kernel
theorem dX3_step_33 : decode cX3_step 33 = .ok (.aload_n 0, 1) := by decide +kernel
theorem dX3_step_34 : decode cX3_step 34 = .ok (.dup, 1) := by decide +kernel
theorem dX3_step_35 : decode cX3_step 35 = .ok (.getfield 59, 3) := by decide +kernel
theorem dX3_step_38 : decode cX3_step 38 = .ok (.iconst 1, 1) := by decide +kernel
theorem dX3_step_39 : decode cX3_step 39 = .ok (.iadd, 1) := by decide +kernel
theorem dX3_step_40 : decode cX3_step 40 = .ok (.putfield 59, 3) := by decide +kernel
theorem dX3_step_43 : decode cX3_step 43 = .ok (.goto (-35), 3) := by decide +kernel
theorem dX3_step_46 : decode cX3_step 46 = .ok (.aload_n 0, 1) := by decide +kernel
theorem dX3_step_47 : decode cX3_step 47 = .ok (.aload_n 0, 1) := by decide +kernel
theorem dX3_step_48 : decode cX3_step 48 = .ok (.aload_n 0, 1) := by decide +kernel
theorem dX3_step_49 : decode cX3_step 49 = .ok (.getfield 59, 3) := by decide +kernel
theorem dX3_step_52 : decode cX3_step 52 = .ok (.invokevirtual 145, 3) := by decide +kernel
theorem dX3_step_55 : decode cX3_step 55 = .ok (.putfield 32, 3) := by decide +kernel
theorem dX3_step_58 : decode cX3_step 58 = .ok (.aload_n 0, 1) := by decide +kernel
theorem dX3_step_59 : decode cX3_step 59 = .ok (.aload_n 0, 1) := by decide +kernel
theorem dX3_step_60 : decode cX3_step 60 = .ok (.getfield 59, 3) := by decide +kernel
theorem dX3_step_63 : decode cX3_step 63 = .ok (.putfield 134, 3) := by decide +kernel
theorem dX3_step_66 : decode cX3_step 66 = .ok (.aload_n 0, 1) := by decide +kernel
theorem dX3_step_67 : decode cX3_step 67 = .ok (.getfield 32, 3) := by decide +kernel
theorem dX3_step_70 : decode cX3_step 70 = .ok (.iconst 3, 1) := by decide +kernel
theorem dX3_step_71 : decode cX3_step 71 = .ok (.if_icmp .ne 16, 3) := by decide +kernel
theorem dX3_step_74 : decode cX3_step 74 = .ok (.aload_n 0, 1) := by decide +kernel
theorem dX3_step_75 : decode cX3_step 75 = .ok (.dup, 1) := by decide +kernel
theorem dX3_step_76 : decode cX3_step 76 = .ok (.getfield 134, 3) := by decide +kernel
theorem dX3_step_79 : decode cX3_step 79 = .ok (.iconst 1, 1) := by decide +kernel
theorem dX3_step_80 : decode cX3_step 80 = .ok (.iadd, 1) := by decide +kernel
theorem dX3_step_81 : decode cX3_step 81 = .ok (.putfield 134, 3) := by decide +kernel
theorem dX3_step_84 : decode cX3_step 84 = .ok (.goto 49, 3) := by decide +kernel
theorem dX3_step_87 : decode cX3_step 87 = .ok (.aload_n 0, 1) := by decide +kernel
theorem dX3_step_88 : decode cX3_step 88 = .ok (.getfield 32, 3) := by decide +kernel
theorem dX3_step_91 : decode cX3_step 91 = .ok (.ifCond .eq 42, 3) := by decide +kernel
theorem dX3_step_94 : decode cX3_step 94 = .ok (.aload_n 0, 1) := by decide +kernel
theorem dX3_step_95 : decode cX3_step 95 = .ok (.getfield 134, 3) := by decide +kernel
theorem dX3_step_98 : decode cX3_step 98 = .ok (.aload_n 0, 1) := by decide +kernel
theorem dX3_step_99 : decode cX3_step 99 = .ok (.getfield 21, 3) := by decide +kernel
theorem dX3_step_102 : decode cX3_step 102 = .ok (.if_icmp .ge 31, 3) := by decide +kernel
theorem dX3_step_105 : decode cX3_step 105 = .ok (.aload_n 0, 1) := by decide +kernel
theorem dX3_step_106 : decode cX3_step 106 = .ok (.aload_n 0, 1) := by decide +kernel
theorem dX3_step_107 : decode cX3_step 107 = .ok (.getfield 134, 3) := by decide +kernel
theorem dX3_step_110 : decode cX3_step 110 = .ok (.invokevirtual 145, 3) := by decide +kernel
theorem dX3_step_113 : decode cX3_step 113 = .ok (.aload_n 0, 1) := by decide +kernel
theorem dX3_step_114 : decode cX3_step 114 = .ok (.getfield 32, 3) := by decide +kernel
theorem dX3_step_117 : decode cX3_step 117 = .ok (.if_icmp .ne 16, 3) := by decide +kernel
theorem dX3_step_120 : decode cX3_step 120 = .ok (.aload_n 0, 1) := by decide +kernel
theorem dX3_step_121 : decode cX3_step 121 = .ok (.dup, 1) := by decide +kernel
theorem dX3_step_122 : decode cX3_step 122 = .ok (.getfield 134, 3) := by decide +kernel
theorem dX3_step_125 : decode cX3_step 125 = .ok (.iconst 1, 1) := by decide +kernel
theorem dX3_step_126 : decode cX3_step 126 = .ok (.iadd, 1) := by decide +kernel
theorem dX3_step_127 : decode cX3_step 127 = .ok (.putfield 134, 3) := by decide +kernel
theorem dX3_step_130 : decode cX3_step 130 = .ok (.goto (-36), 3) := by decide +kernel
theorem dX3_step_133 : decode cX3_step 133 = .ok (.return_, 1) := by decide +kernel
theorem dX3_sortAt_0 : decode cX3_sortAt 0 = .ok (.iload_n 1, 1) := by decide +kernel
theorem dX3_sortAt_1 : decode cX3_sortAt 1 = .ok (.aload_n 0, 1) := by decide +kernel
theorem dX3_sortAt_2 : decode cX3_sortAt 2 = .ok (.getfield 21, 3) := by decide +kernel
theorem dX3_sortAt_5 : decode cX3_sortAt 5 = .ok (.if_icmp .lt 5, 3) := by decide +kernel
theorem dX3_sortAt_8 : decode cX3_sortAt 8 = .ok (.iconst 0, 1) := by decide +kernel
theorem dX3_sortAt_9 : decode cX3_sortAt 9 = .ok (.ireturn, 1) := by decide +kernel
theorem dX3_sortAt_10 : decode cX3_sortAt 10 = .ok (.aload_n 0, 1) := by decide +kernel
theorem dX3_sortAt_11 : decode cX3_sortAt 11 = .ok (.getfield 9, 3) := by decide +kernel
theorem dX3_sortAt_14 : decode cX3_sortAt 14 = .ok (.iload_n 1, 1) := by decide +kernel
theorem dX3_sortAt_15 : decode cX3_sortAt 15 = .ok (.baload, 1) := by decide +kernel
theorem dX3_sortAt_16 : decode cX3_sortAt 16 = .ok (.istore_n 2, 1) := by decide +kernel
theorem dX3_sortAt_17 : decode cX3_sortAt 17 = .ok (.iload_n 2, 1) := by decide +kernel
theorem dX3_sortAt_18 : decode cX3_sortAt 18 = .ok (.bipush 97, 2) := by decide +kernel
theorem dX3_sortAt_20 : decode cX3_sortAt 20 = .ok (.if_icmp .lt 11, 3) := by decide +kernel
theorem dX3_sortAt_23 : decode cX3_sortAt 23 = .ok (.iload_n 2, 1) := by decide +kernel
theorem dX3_sortAt_24 : decode cX3_sortAt 24 = .ok (.bipush 122, 2) := by decide +kernel
theorem dX3_sortAt_26 : decode cX3_sortAt 26 = .ok (.if_icmp .gt 5, 3) := by decide +kernel
theorem dX3_sortAt_29 : decode cX3_sortAt 29 = .ok (.iconst 1, 1) := by decide +kernel
theorem dX3_sortAt_30 : decode cX3_sortAt 30 = .ok (.ireturn, 1) := by decide +kernel
theorem dX3_sortAt_31 : decode cX3_sortAt 31 = .ok (.iload_n 2, 1) := by decide +kernel
theorem dX3_sortAt_32 : decode cX3_sortAt 32 = .ok (.bipush 48, 2) := by decide +kernel
theorem dX3_sortAt_34 : decode cX3_sortAt 34 = .ok (.if_icmp .lt 13, 3) := by decide +kernel
theorem dX3_sortAt_37 : decode cX3_sortAt 37 = .ok (.iload_n 2, 1) := by decide +kernel
theorem dX3_sortAt_38 : decode cX3_sortAt 38 = .ok (.bipush 57, 2) := by decide +kernel
theorem dX3_sortAt_40 : decode cX3_sortAt 40 = .ok (.if_icmp .gt 7, 3) := by decide +kernel
theorem dX3_sortAt_43 : decode cX3_sortAt 43 = .ok (.iconst 2, 1) := by decide +kernel
theorem dX3_sortAt_44 : decode cX3_sortAt 44 = .ok (.goto 4, 3) := by decide +kernel
theorem dX3_sortAt_47 : decode cX3_sortAt 47 = .ok (.iconst 3, 1) := by decide +kernel
theorem dX3_sortAt_48 : decode cX3_sortAt 48 = .ok (.ireturn, 1) := by decide +kernel
set_option maxRecDepth 20000 in
theorem ggX4_init_X2_init : GoodIn wsX4_init wsX2_init := goodIn_r _ [30, 31, 2, 3, 15, 32, 33, 34, 35, 36, 37, 38, 39, 40, 41, 42, 43, 44, 6, 45, 46, 47, 48, 49, 50, 55, 56, 57, 58, 59, 60, 61, 62, 63, 64, 65, 66, 67, 68, 69] (by decide +kernel) (by decide +kernel)
set_option maxRecDepth 20000 in
theorem gX4_init_X2_init : GoodIn wsX4_init (wsX2_init) := ggX4_init_X2_init
set_option maxRecDepth 20000 in
theorem ggX4_init_X1_init : GoodIn wsX4_init wsX1_init := goodIn_r _ [52, 53, 2, 3, 15, 54, 85, 86, 87, 88, 89, 90, 91, 92] (by decide +kernel) (by decide +kernel)
set_option maxRecDepth 20000 in
theorem gX4_init_X1_init_n61 : GoodIn wsX4_init (wsX1_init) := ggX4_init_X1_init
theorem dX4_init_0 : decode cX4_init 0 = .ok (.aload_n 0, 1) := by decide +kernel
theorem dX4_init_1 : decode cX4_init 1 = .ok (.invokespecial 3, 3) := by decide +kernel
theorem dX4_init_4 : decode cX4_init 4 = .ok (.aload_n 0, 1) := by decide +kernel
theorem dX4_init_5 : decode cX4_init 5 = .ok (.new 9, 3) := by decide +kernel
theorem dX4_init_8 : decode cX4_init 8 = .ok (.dup, 1) := by decide +kernel
theorem dX4_init_9 : decode cX4_init 9 = .ok (.invokespecial 11, 3) := by decide +kernel
theorem dX4_init_12 : decode cX4_init 12 = .ok (.putfield 12, 3) := by decide +kernel
theorem dX4_init_15 : decode cX4_init 15 = .ok (.aload_n 0, 1) := by decide +kernel
theorem dX4_init_16 : decode cX4_init 16 = .ok (.new 9, 3) := by decide +kernel
theorem dX4_init_19 : decode cX4_init 19 = .ok (.dup, 1) := by decide +kernel
theorem dX4_init_20 : decode cX4_init 20 = .ok (.invokespecial 11, 3) := by decide +kernel
theorem dX4_init_23 : decode cX4_init 23 = .ok (.putfield 16, 3) := by decide +kernel
theorem dX4_init_26 : decode cX4_init 26 = .ok (.aload_n 0, 1) := by decide +kernel
theorem dX4_init_27 : decode cX4_init 27 = .ok (.new 9, 3) := by decide +kernel
theorem dX4_init_30 : decode cX4_init 30 = .ok (.dup, 1) := by decide +kernel
theorem dX4_init_31 : decode cX4_init 31 = .ok (.invokespecial 11, 3) := by decide +kernel
theorem dX4_init_34 : decode cX4_init 34 = .ok (.putfield 19, 3) := by decide +kernel
theorem dX4_init_37 : decode cX4_init 37 = .ok (.aload_n 0, 1) := by decide +kernel
theorem dX4_init_38 : decode cX4_init 38 = .ok (.new 9, 3) := by decide +kernel
theorem dX4_init_41 : decode cX4_init 41 = .ok (.dup, 1) := by decide +kernel
theorem dX4_init_42 : decode cX4_init 42 = .ok (.invokespecial 11, 3) := by decide +kernel
theorem dX4_init_45 : decode cX4_init 45 = .ok (.putfield 22, 3) := by decide +kernel
theorem dX4_init_48 : decode cX4_init 48 = .ok (.aload_n 0, 1) := by decide +kernel
theorem dX4_init_49 : decode cX4_init 49 = .ok (.iconst 0, 1) := by decide +kernel
theorem dX4_init_50 : decode cX4_init 50 = .ok (.putfield 25, 3) := by decide +kernel
theorem dX4_init_53 : decode cX4_init 53 = .ok (.aload_n 0, 1) := by decide +kernel
theorem dX4_init_54 : decode cX4_init 54 = .ok (.sipush 200, 3) := by decide +kernel
theorem dX4_init_57 : decode cX4_init 57 = .ok (.newarray .byte, 2) := by decide +kernel
theorem dX4_init_59 : decode cX4_init 59 = .ok (.putfield 29, 3) := by decide +kernel
theorem dX4_init_62 : decode cX4_init 62 = .ok (.aload_n 0, 1) := by decide +kernel
theorem dX4_init_63 : decode cX4_init 63 = .ok (.iconst 0, 1) := by decide +kernel
theorem dX4_init_64 : decode cX4_init 64 = .ok (.putfield 33, 3) := by decide +kernel
theorem dX4_init_67 : decode cX4_init 67 = .ok (.aload_n 0, 1) := by decide +kernel
theorem dX4_init_68 : decode cX4_init 68 = .ok (.bipush 30, 2) := by decide +kernel
theorem dX4_init_70 : decode cX4_init 70 = .ok (.newarray .int, 2) := by decide +kernel
theorem dX4_init_72 : decode cX4_init 72 = .ok (.putfield 37, 3) := by decide +kernel
theorem dX4_init_75 : decode cX4_init 75 = .ok (.aload_n 0, 1) := by decide +kernel
theorem dX4_init_76 : decode cX4_init 76 = .ok (.iconst 0, 1) := by decide +kernel
theorem dX4_init_77 : decode cX4_init 77 = .ok (.putfield 41, 3) := by decide +kernel
theorem dX4_init_80 : decode cX4_init 80 = .ok (.aload_n 0, 1) := by decide +kernel
theorem dX4_init_81 : decode cX4_init 81 = .ok (.iconst 4, 1) := by decide +kernel
theorem dX4_init_82 : decode cX4_init 82 = .ok (.anewarray 44, 3) := by decide +kernel
theorem dX4_init_85 : decode cX4_init 85 = .ok (.putfield 46, 3) := by decide +kernel
theorem dX4_init_88 : decode cX4_init 88 = .ok (.aload_n 0, 1) := by decide +kernel
theorem dX4_init_89 : decode cX4_init 89 = .ok (.iconst 4, 1) := by decide +kernel
theorem dX4_init_90 : decode cX4_init 90 = .ok (.newarray .int, 2) := by decide +kernel
theorem dX4_init_92 : decode cX4_init 92 = .ok (.putfield 50, 3) := by decide +kernel
theorem dX4_init_95 : decode cX4_init 95 = .ok (.aload_n 0, 1) := by decide +kernel
theorem dX4_init_96 : decode cX4_init 96 = .ok (.iconst 4, 1) := by decide +kernel
theorem dX4_init_97 : decode cX4_init 97 = .ok (.newarray .int, 2) := by decide +kernel
theorem dX4_init_99 : decode cX4_init 99 = .ok (.putfield 53, 3) := by decide +kernel
theorem dX4_init_102 : decode cX4_init 102 = .ok (.aload_n 0, 1) := by decide +kernel
theorem dX4_init_103 : decode cX4_init 103 = .ok (.iconst 4, 1) := by decide +kernel
theorem dX4_init_104 : decode cX4_init 104 = .ok (.anewarray 44, 3) := by decide +kernel
theorem dX4_init_107 : decode cX4_init 107 = .ok (.putfield 56, 3) := by decide +kernel
theorem dX4_init_110 : decode cX4_init 110 = .ok (.aload_n 0, 1) := by decide +kernel
theorem dX4_init_111 : decode cX4_init 111 = .ok (.new 59, 3) := by decide +kernel
theorem dX4_init_114 : decode cX4_init 114 = .ok (.dup, 1) := by decide +kernel
theorem dX4_init_115 : decode cX4_init 115 = .ok (.invokespecial 61, 3) := by decide +kernel
theorem dX4_init_118 : decode cX4_init 118 = .ok (.putfield 62, 3) := by decide +kernel
theorem dX4_init_121 : decode cX4_init 121 = .ok (.aload_n 0, 1) := by decide +kernel
theorem dX4_init_122 : decode cX4_init 122 = .ok (.sipush 1024, 3) := by decide +kernel
theorem dX4_init_125 : decode cX4_init 125 = .ok (.newarray .int, 2) := by decide +kernel
theorem dX4_init_127 : decode cX4_init 127 = .ok (.putfield 66, 3) := by decide +kernel
theorem dX4_init_130 : decode cX4_init 130 = .ok (.return_, 1) := by decide +kernel
theorem dX4_feed_0 : decode cX4_feed 0 = .ok (.iload_n 3, 1) := by decide +kernel
theorem dX4_feed_1 : decode cX4_feed 1 = .ok (.iconst 1, 1) := by decide +kernel
theorem dX4_feed_2 : decode cX4_feed 2 = .ok (.if_icmp .lt 9, 3) := by decide +kernel
theorem dX4_feed_5 : decode cX4_feed 5 = .ok (.iload_n 3, 1) := by decide +kernel
theorem dX4_feed_6 : decode cX4_feed 6 = .ok (.bipush 8, 2) := by decide +kernel
theorem dX4_feed_8 : decode cX4_feed 8 = .ok (.if_icmp .le 5, 3) := by decide +kernel
theorem dX4_feed_11 : decode cX4_feed 11 = .ok (.iconst (-1), 1) := by decide +kernel
theorem dX4_feed_12 : decode cX4_feed 12 = .ok (.ireturn, 1) := by decide +kernel
theorem dX4_feed_13 : decode cX4_feed 13 = .ok (.iload_n 3, 1) := by decide +kernel
theorem dX4_feed_14 : decode cX4_feed 14 = .ok (.sipush 200, 3) := by decide +kernel
theorem dX4_feed_17 : decode cX4_feed 17 = .ok (.aload_n 0, 1) := by decide +kernel
theorem dX4_feed_18 : decode cX4_feed 18 = .ok (.getfield 33, 3) := by decide +kernel
theorem dX4_feed_21 : decode cX4_feed 21 = .ok (.isub, 1) := by decide +kernel
theorem dX4_feed_22 : decode cX4_feed 22 = .ok (.if_icmp .le 6, 3) := by decide +kernel
theorem dX4_feed_25 : decode cX4_feed 25 = .ok (.bipush (-2), 2) := by decide +kernel
theorem dX4_feed_27 : decode cX4_feed 27 = .ok (.ireturn, 1) := by decide +kernel
theorem dX4_feed_28 : decode cX4_feed 28 = .ok (.iconst 0, 1) := by decide +kernel
theorem dX4_feed_29 : decode cX4_feed 29 = .ok (.istore 4, 2) := by decide +kernel
theorem dX4_feed_31 : decode cX4_feed 31 = .ok (.iload 4, 2) := by decide +kernel
theorem dX4_feed_33 : decode cX4_feed 33 = .ok (.iload_n 3, 1) := by decide +kernel
theorem dX4_feed_34 : decode cX4_feed 34 = .ok (.if_icmp .ge 30, 3) := by decide +kernel
theorem dX4_feed_37 : decode cX4_feed 37 = .ok (.aload_n 0, 1) := by decide +kernel
theorem dX4_feed_38 : decode cX4_feed 38 = .ok (.getfield 29, 3) := by decide +kernel
theorem dX4_feed_41 : decode cX4_feed 41 = .ok (.aload_n 0, 1) := by decide +kernel
theorem dX4_feed_42 : decode cX4_feed 42 = .ok (.getfield 33, 3) := by decide +kernel
theorem dX4_feed_45 : decode cX4_feed 45 = .ok (.iload 4, 2) := by decide +kernel
theorem dX4_feed_47 : decode cX4_feed 47 = .ok (.iadd, 1) := by decide +kernel
theorem dX4_feed_48 : decode cX4_feed 48 = .ok (.lload_n 1, 1) := by decide +kernel
theorem dX4_feed_49 : decode cX4_feed 49 = .ok (.bipush 8, 2) := by decide +kernel
theorem dX4_feed_51 : decode cX4_feed 51 = .ok (.iload 4, 2) := by decide +kernel
theorem dX4_feed_53 : decode cX4_feed 53 = .ok (.imul, 1) := by decide +kernel
theorem dX4_feed_54 : decode cX4_feed 54 = .ok (.lushr, 1) := by decide +kernel
theorem dX4_feed_55 : decode cX4_feed 55 = .ok (.l2i, 1) := by decide +kernel
theorem dX4_feed_56 : decode cX4_feed 56 = .ok (.i2b, 1) := by decide +kernel
theorem dX4_feed_57 : decode cX4_feed 57 = .ok (.bastore, 1) := by decide +kernel
theorem dX4_feed_58 : decode cX4_feed 58 = .ok (.iinc 4 1, 3) := by decide +kernel
theorem dX4_feed_61 : decode cX4_feed 61 = .ok (.goto (-30), 3) := by decide +kernel
theorem dX4_feed_64 : decode cX4_feed 64 = .ok (.aload_n 0, 1) := by decide +kernel
theorem dX4_feed_65 : decode cX4_feed 65 = .ok (.dup, 1) := by decide +kernel
theorem dX4_feed_66 : decode cX4_feed 66 = .ok (.getfield 33, 3) := by decide +kernel
theorem dX4_feed_69 : decode cX4_feed 69 = .ok (.iload_n 3, 1) := by decide +kernel
theorem dX4_feed_70 : decode cX4_feed 70 = .ok (.iadd, 1) := by decide +kernel
theorem dX4_feed_71 : decode cX4_feed 71 = .ok (.putfield 33, 3) := by decide +kernel
theorem dX4_feed_74 : decode cX4_feed 74 = .ok (.aload_n 0, 1) := by decide +kernel
theorem dX4_feed_75 : decode cX4_feed 75 = .ok (.getfield 33, 3) := by decide +kernel
theorem dX4_feed_78 : decode cX4_feed 78 = .ok (.ireturn, 1) := by decide +kernel
set_option maxRecDepth 20000 in
theorem ggX4_town_X2_begin : GoodIn wsX4_town wsX2_begin := goodIn_r _ [15, 16, 17, 18, 19, 20, 21, 22, 23, 182, 183, 184, 185, 186, 187, 188, 189, 190, 191, 192, 193, 194, 195, 196] (by decide +kernel) (by decide +kernel)
set_option maxRecDepth 20000 in
theorem gX4_town_X2_begin : GoodIn wsX4_town (wsV RX4 69 RX2 yX2_begin wsX2_begin) := goodIn_app (goodIn_of _ (by decide +kernel)) ggX4_town_X2_begin
set_option maxRecDepth 20000 in
theorem ggX4_town_X3_init : GoodIn wsX4_town wsX3_init := goodIn_r _ [26, 27, 28, 29, 30, 31, 32, 33, 34, 35, 36, 197, 198, 199, 200, 201, 202] (by decide +kernel) (by decide +kernel)
set_option maxRecDepth 20000 in
theorem gX4_town_X3_init : GoodIn wsX4_town (wsX3_init) := ggX4_town_X3_init
set_option maxRecDepth 20000 in
theorem ggX4_town_X3_faultOfAll : GoodIn wsX4_town wsX3_faultOfAll := goodIn_r _ [40, 41, 42, 43, 44, 45, 7, 46, 47, 35, 30, 48, 49, 50, 51, 52, 53, 54, 55, 56, 57, 58, 59, 60, 61, 62, 63, 64, 65, 66, 67, 68, 69, 70, 71, 72, 73, 74, 75, 76, 77, 78, 79, 80, 81, 82, 83, 84, 85, 86, 87, 88, 89, 90, 91, 92, 93, 94, 95, 96, 97, 98, 99, 100, 101, 102, 103, 104, 105, 106, 107, 108, 109, 110, 111, 112, 113, 114, 115, 116, 36, 117, 118, 119, 120, 121, 122, 123, 124, 125, 126, 127, 128, 129, 130, 131, 132, 133, 134, 135, 136, 14, 137, 19, 138, 139, 140, 141, 142, 143, 144, 145, 146, 147, 148, 149, 150, 151, 152, 153, 154, 155, 156, 157, 197, 198, 199, 200, 201, 202, 182, 183, 184, 185, 186, 187, 188, 189, 190, 191, 192, 193, 194, 195, 196] (by decide +kernel) (by decide +kernel)
set_option maxRecDepth 20000 in
theorem gX4_town_X3_faultOfAll : GoodIn wsX4_town (wsV RX4 80 RX3 yX3_faultOfAll wsX3_faultOfAll) := goodIn_app (goodIn_of _ (by decide +kernel)) ggX4_town_X3_faultOfAll
set_option maxRecDepth 20000 in
theorem ggX4_town_X2_become : GoodIn wsX4_town wsX2_become := goodIn_r _ [161, 16, 162, 163, 164, 165, 17, 18, 19, 138, 139, 140, 141, 142, 20, 21, 166, 22, 23, 182, 183, 184, 185, 186, 187, 188, 189, 190, 191, 192, 193, 194, 195, 196] (by decide +kernel) (by decide +kernel)
set_option maxRecDepth 20000 in
theorem gX4_town_X2_become : GoodIn wsX4_town (wsV RX4 84 RX2 yX2_become wsX2_become) := goodIn_app (goodIn_of _ (by decide +kernel)) ggX4_town_X2_become
theorem dX4_town_0 : decode cX4_town 0 = .ok (.aload_n 0, 1) := by decide +kernel
theorem dX4_town_1 : decode cX4_town 1 = .ok (.getfield 33, 3) := by decide +kernel
theorem dX4_town_4 : decode cX4_town 4 = .ok (.istore_n 1, 1) := by decide +kernel
theorem dX4_town_5 : decode cX4_town 5 = .ok (.aload_n 0, 1) := by decide +kernel
theorem dX4_town_6 : decode cX4_town 6 = .ok (.iconst 0, 1) := by decide +kernel
theorem dX4_town_7 : decode cX4_town 7 = .ok (.putfield 33, 3) := by decide +kernel
theorem dX4_town_10 : decode cX4_town 10 = .ok (.aload_n 0, 1) := by decide +kernel
theorem dX4_town_11 : decode cX4_town 11 = .ok (.getfield 19, 3) := by decide +kernel
theorem dX4_town_14 : decode cX4_town 14 = .ok (.invokevirtual 69, 3) := by decide +kernel
theorem dX4_town_17 : decode cX4_town 17 = .ok (.aload_n 0, 1) := by decide +kernel
theorem dX4_town_18 : decode cX4_town 18 = .ok (.getfield 19, 3) := by decide +kernel
theorem dX4_town_21 : decode cX4_town 21 = .ok (.aload_n 0, 1) := by decide +kernel
theorem dX4_town_22 : decode cX4_town 22 = .ok (.getfield 12, 3) := by decide +kernel
theorem dX4_town_25 : decode cX4_town 25 = .ok (.getfield 72, 3) := by decide +kernel
theorem dX4_town_28 : decode cX4_town 28 = .ok (.putfield 72, 3) := by decide +kernel
theorem dX4_town_31 : decode cX4_town 31 = .ok (.new 75, 3) := by decide +kernel
theorem dX4_town_34 : decode cX4_town 34 = .ok (.dup, 1) := by decide +kernel
theorem dX4_town_35 : decode cX4_town 35 = .ok (.aload_n 0, 1) := by decide +kernel
theorem dX4_town_36 : decode cX4_town 36 = .ok (.getfield 29, 3) := by decide +kernel
theorem dX4_town_39 : decode cX4_town 39 = .ok (.iload_n 1, 1) := by decide +kernel
theorem dX4_town_40 : decode cX4_town 40 = .ok (.aload_n 0, 1) := by decide +kernel
theorem dX4_town_41 : decode cX4_town 41 = .ok (.getfield 19, 3) := by decide +kernel
theorem dX4_town_44 : decode cX4_town 44 = .ok (.invokespecial 77, 3) := by decide +kernel
theorem dX4_town_47 : decode cX4_town 47 = .ok (.invokevirtual 80, 3) := by decide +kernel
theorem dX4_town_50 : decode cX4_town 50 = .ok (.istore_n 2, 1) := by decide +kernel
theorem dX4_town_51 : decode cX4_town 51 = .ok (.iload_n 2, 1) := by decide +kernel
theorem dX4_town_52 : decode cX4_town 52 = .ok (.ifCond .lt 8, 3) := by decide +kernel
theorem dX4_town_55 : decode cX4_town 55 = .ok (.bipush (-100), 2) := by decide +kernel
theorem dX4_town_57 : decode cX4_town 57 = .ok (.iload_n 2, 1) := by decide +kernel
theorem dX4_town_58 : decode cX4_town 58 = .ok (.isub, 1) := by decide +kernel
theorem dX4_town_59 : decode cX4_town 59 = .ok (.ireturn, 1) := by decide +kernel
theorem dX4_town_60 : decode cX4_town 60 = .ok (.aload_n 0, 1) := by decide +kernel
theorem dX4_town_61 : decode cX4_town 61 = .ok (.getfield 12, 3) := by decide +kernel
theorem dX4_town_64 : decode cX4_town 64 = .ok (.aload_n 0, 1) := by decide +kernel
theorem dX4_town_65 : decode cX4_town 65 = .ok (.getfield 19, 3) := by decide +kernel
theorem dX4_town_68 : decode cX4_town 68 = .ok (.invokevirtual 84, 3) := by decide +kernel
theorem dX4_town_71 : decode cX4_town 71 = .ok (.aload_n 0, 1) := by decide +kernel
theorem dX4_town_72 : decode cX4_town 72 = .ok (.iconst 0, 1) := by decide +kernel
theorem dX4_town_73 : decode cX4_town 73 = .ok (.putfield 41, 3) := by decide +kernel
theorem dX4_town_76 : decode cX4_town 76 = .ok (.aload_n 0, 1) := by decide +kernel
theorem dX4_town_77 : decode cX4_town 77 = .ok (.getfield 12, 3) := by decide +kernel
theorem dX4_town_80 : decode cX4_town 80 = .ok (.getfield 88, 3) := by decide +kernel
theorem dX4_town_83 : decode cX4_town 83 = .ok (.ireturn, 1) := by decide +kernel
set_option maxRecDepth 20000 in
theorem ggX4_set_X4_isBelow : GoodIn wsX4_set wsX4_isBelow := goodIn_r _ [7] (by decide +kernel) (by decide +kernel)
set_option maxRecDepth 20000 in
theorem gX4_set_X4_isBelow : GoodIn wsX4_set (va_wsS RX4 91 yX4_isBelow wsX4_isBelow) := goodIn_app (goodIn_of _ (by decide +kernel)) ggX4_set_X4_isBelow
theorem dX4_set_0 : decode cX4_set 0 = .ok (.iload_n 1, 1) := by decide +kernel
theorem dX4_set_1 : decode cX4_set 1 = .ok (.iconst 4, 1) := by decide +kernel
theorem dX4_set_2 : decode cX4_set 2 = .ok (.invokestatic 91, 3) := by decide +kernel
theorem dX4_set_5 : decode cX4_set 5 = .ok (.ifCond .eq 16, 3) := by decide +kernel
theorem dX4_set_8 : decode cX4_set 8 = .ok (.iload_n 2, 1) := by decide +kernel
theorem dX4_set_9 : decode cX4_set 9 = .ok (.ifCond .lt 12, 3) := by decide +kernel
theorem dX4_set_12 : decode cX4_set 12 = .ok (.iload_n 2, 1) := by decide +kernel
theorem dX4_set_13 : decode cX4_set 13 = .ok (.getstatic 95, 3) := by decide +kernel
theorem dX4_set_16 : decode cX4_set 16 = .ok (.iload_n 1, 1) := by decide +kernel
theorem dX4_set_17 : decode cX4_set 17 = .ok (.iaload, 1) := by decide +kernel
theorem dX4_set_18 : decode cX4_set 18 = .ok (.if_icmp .le 5, 3) := by decide +kernel
theorem dX4_set_21 : decode cX4_set 21 = .ok (.iconst (-1), 1) := by decide +kernel
theorem dX4_set_22 : decode cX4_set 22 = .ok (.ireturn, 1) := by decide +kernel
theorem dX4_set_23 : decode cX4_set 23 = .ok (.aload_n 0, 1) := by decide +kernel
theorem dX4_set_24 : decode cX4_set 24 = .ok (.getfield 12, 3) := by decide +kernel
theorem dX4_set_27 : decode cX4_set 27 = .ok (.getfield 98, 3) := by decide +kernel
theorem dX4_set_30 : decode cX4_set 30 = .ok (.iload_n 1, 1) := by decide +kernel
theorem dX4_set_31 : decode cX4_set 31 = .ok (.iaload, 1) := by decide +kernel
theorem dX4_set_32 : decode cX4_set 32 = .ok (.istore_n 3, 1) := by decide +kernel
theorem dX4_set_33 : decode cX4_set 33 = .ok (.aload_n 0, 1) := by decide +kernel
theorem dX4_set_34 : decode cX4_set 34 = .ok (.getfield 12, 3) := by decide +kernel
theorem dX4_set_37 : decode cX4_set 37 = .ok (.getfield 98, 3) := by decide +kernel
theorem dX4_set_40 : decode cX4_set 40 = .ok (.iload_n 1, 1) := by decide +kernel
theorem dX4_set_41 : decode cX4_set 41 = .ok (.iload_n 2, 1) := by decide +kernel
theorem dX4_set_42 : decode cX4_set 42 = .ok (.iastore, 1) := by decide +kernel
theorem dX4_set_43 : decode cX4_set 43 = .ok (.iload_n 3, 1) := by decide +kernel
theorem dX4_set_44 : decode cX4_set 44 = .ok (.ireturn, 1) := by decide +kernel
set_option maxRecDepth 20000 in
theorem ggX4_lawOf_X4_isBelow : GoodIn wsX4_lawOf wsX4_isBelow := goodIn_r _ [6] (by decide +kernel) (by decide +kernel)
set_option maxRecDepth 20000 in
theorem gX4_lawOf_X4_isBelow : GoodIn wsX4_lawOf (va_wsS RX4 91 yX4_isBelow wsX4_isBelow) := goodIn_app (goodIn_of _ (by decide +kernel)) ggX4_lawOf_X4_isBelow
theorem dX4_lawOf_0 : decode cX4_lawOf 0 = .ok (.iload_n 1, 1) := by decide +kernel
theorem dX4_lawOf_1 : decode cX4_lawOf 1 = .ok (.iconst 4, 1) := by decide +kernel
theorem dX4_lawOf_2 : decode cX4_lawOf 2 = .ok (.invokestatic 91, 3) := by decide +kernel
theorem dX4_lawOf_5 : decode cX4_lawOf 5 = .ok (.ifCond .eq 15, 3) := by decide +kernel
theorem dX4_lawOf_8 : decode cX4_lawOf 8 = .ok (.aload_n 0, 1) := by decide +kernel
theorem dX4_lawOf_9 : decode cX4_lawOf 9 = .ok (.getfield 12, 3) := by decide +kernel
theorem dX4_lawOf_12 : decode cX4_lawOf 12 = .ok (.getfield 98, 3) := by decide +kernel
theorem dX4_lawOf_15 : decode cX4_lawOf 15 = .ok (.iload_n 1, 1) := by decide +kernel
theorem dX4_lawOf_16 : decode cX4_lawOf 16 = .ok (.iaload, 1) := by decide +kernel
theorem dX4_lawOf_17 : decode cX4_lawOf 17 = .ok (.goto 4, 3) := by decide +kernel
theorem dX4_lawOf_20 : decode cX4_lawOf 20 = .ok (.iconst (-1), 1) := by decide +kernel
theorem dX4_lawOf_21 : decode cX4_lawOf 21 = .ok (.ireturn, 1) := by decide +kernel
set_option maxRecDepth 20000 in
theorem ggX4_name_X4_isBelow : GoodIn wsX4_name wsX4_isBelow := goodIn_r _ [6] (by decide +kernel) (by decide +kernel)
set_option maxRecDepth 20000 in
theorem gX4_name_X4_isBelow : GoodIn wsX4_name (va_wsS RX4 91 yX4_isBelow wsX4_isBelow) := goodIn_app (goodIn_of _ (by decide +kernel)) ggX4_name_X4_isBelow
set_option maxRecDepth 20000 in
theorem ggX4_name_X2_addName : GoodIn wsX4_name wsX2_addName := goodIn_r _ [11, 12, 13, 14, 15, 16, 17, 33, 34, 35, 36, 37, 38, 39, 40, 41, 42, 43, 44, 45, 46, 47] (by decide +kernel) (by decide +kernel)
set_option maxRecDepth 20000 in
theorem gX4_name_X2_addName : GoodIn wsX4_name (wsV RX4 101 RX2 yX2_addName wsX2_addName) := goodIn_app (goodIn_of _ (by decide +kernel)) ggX4_name_X2_addName
theorem dX4_name_0 : decode cX4_name 0 = .ok (.iload_n 1, 1) := by decide +kernel
theorem dX4_name_1 : decode cX4_name 1 = .ok (.bipush 6, 2) := by decide +kernel
theorem dX4_name_3 : decode cX4_name 3 = .ok (.invokestatic 91, 3) := by decide +kernel
theorem dX4_name_6 : decode cX4_name 6 = .ok (.ifCond .eq 32, 3) := by decide +kernel
theorem dX4_name_9 : decode cX4_name 9 = .ok (.iload_n 2, 1) := by decide +kernel
theorem dX4_name_10 : decode cX4_name 10 = .ok (.bipush 10, 2) := by decide +kernel
theorem dX4_name_12 : decode cX4_name 12 = .ok (.invokestatic 91, 3) := by decide +kernel
theorem dX4_name_15 : decode cX4_name 15 = .ok (.ifCond .eq 23, 3) := by decide +kernel
theorem dX4_name_18 : decode cX4_name 18 = .ok (.iload_n 3, 1) := by decide +kernel
theorem dX4_name_19 : decode cX4_name 19 = .ok (.ifCond .lt 19, 3) := by decide +kernel
theorem dX4_name_22 : decode cX4_name 22 = .ok (.iload_n 3, 1) := by decide +kernel
theorem dX4_name_23 : decode cX4_name 23 = .ok (.bipush 99, 2) := by decide +kernel
theorem dX4_name_25 : decode cX4_name 25 = .ok (.if_icmp .gt 13, 3) := by decide +kernel
theorem dX4_name_28 : decode cX4_name 28 = .ok (.iload 4, 2) := by decide +kernel
theorem dX4_name_30 : decode cX4_name 30 = .ok (.bipush 10, 2) := by decide +kernel
theorem dX4_name_32 : decode cX4_name 32 = .ok (.invokestatic 91, 3) := by decide +kernel
theorem dX4_name_35 : decode cX4_name 35 = .ok (.ifCond .ne 5, 3) := by decide +kernel
theorem dX4_name_38 : decode cX4_name 38 = .ok (.iconst (-1), 1) := by decide +kernel
theorem dX4_name_39 : decode cX4_name 39 = .ok (.ireturn, 1) := by decide +kernel
theorem dX4_name_40 : decode cX4_name 40 = .ok (.aload_n 0, 1) := by decide +kernel
theorem dX4_name_41 : decode cX4_name 41 = .ok (.getfield 12, 3) := by decide +kernel
theorem dX4_name_44 : decode cX4_name 44 = .ok (.iload_n 1, 1) := by decide +kernel
theorem dX4_name_45 : decode cX4_name 45 = .ok (.iload_n 2, 1) := by decide +kernel
theorem dX4_name_46 : decode cX4_name 46 = .ok (.iload_n 3, 1) := by decide +kernel
theorem dX4_name_47 : decode cX4_name 47 = .ok (.iload 4, 2) := by decide +kernel
theorem dX4_name_49 : decode cX4_name 49 = .ok (.invokevirtual 101, 3) := by decide +kernel
theorem dX4_name_52 : decode cX4_name 52 = .ok (.ifCond .eq 15, 3) := by decide +kernel
theorem dX4_name_55 : decode cX4_name 55 = .ok (.aload_n 0, 1) := by decide +kernel
theorem dX4_name_56 : decode cX4_name 56 = .ok (.getfield 12, 3) := by decide +kernel
theorem dX4_name_59 : decode cX4_name 59 = .ok (.getfield 88, 3) := by decide +kernel
theorem dX4_name_62 : decode cX4_name 62 = .ok (.iconst 1, 1) := by decide +kernel
theorem dX4_name_63 : decode cX4_name 63 = .ok (.isub, 1) := by decide +kernel
theorem dX4_name_64 : decode cX4_name 64 = .ok (.goto 5, 3) := by decide +kernel
theorem dX4_name_67 : decode cX4_name 67 = .ok (.bipush (-2), 2) := by decide +kernel
theorem dX4_name_69 : decode cX4_name 69 = .ok (.ireturn, 1) := by decide +kernel
set_option maxRecDepth 20000 in
theorem ggX4_of_X4_isName : GoodIn wsX4_of wsX4_isName := goodIn_r _ [11, 1, 12, 13, 14, 10, 15, 16, 17, 18, 19, 20, 21, 22, 23, 24, 25, 26, 27, 28, 29, 30, 31, 32, 33, 34, 35, 36, 37, 38, 39, 40, 41, 42, 43, 44, 45] (by decide +kernel) (by decide +kernel)
set_option maxRecDepth 20000 in
theorem gX4_of_X4_isName : GoodIn wsX4_of (wsV RX4 105 RX4 yX4_isName wsX4_isName) := goodIn_app (goodIn_of _ (by decide +kernel)) ggX4_of_X4_isName
theorem dX4_of_0 : decode cX4_of 0 = .ok (.aload_n 0, 1) := by decide +kernel
theorem dX4_of_1 : decode cX4_of 1 = .ok (.iload_n 1, 1) := by decide +kernel
theorem dX4_of_2 : decode cX4_of 2 = .ok (.invokevirtual 105, 3) := by decide +kernel
theorem dX4_of_5 : decode cX4_of 5 = .ok (.ifCond .ne 5, 3) := by decide +kernel
theorem dX4_of_8 : decode cX4_of 8 = .ok (.iconst (-1), 1) := by decide +kernel
theorem dX4_of_9 : decode cX4_of 9 = .ok (.ireturn, 1) := by decide +kernel
theorem dX4_of_10 : decode cX4_of 10 = .ok (.iload_n 2, 1) := by decide +kernel
theorem dX4_of_11 : decode cX4_of 11 = .ok (.tableswitch 83 0 4 #[33, 43, 53, 63, 73], 33) := by decide +kernel
theorem dX4_of_44 : decode cX4_of 44 = .ok (.aload_n 0, 1) := by decide +kernel
theorem dX4_of_45 : decode cX4_of 45 = .ok (.getfield 12, 3) := by decide +kernel
theorem dX4_of_48 : decode cX4_of 48 = .ok (.getfield 109, 3) := by decide +kernel
theorem dX4_of_51 : decode cX4_of 51 = .ok (.iload_n 1, 1) := by decide +kernel
theorem dX4_of_52 : decode cX4_of 52 = .ok (.iaload, 1) := by decide +kernel
theorem dX4_of_53 : decode cX4_of 53 = .ok (.ireturn, 1) := by decide +kernel
theorem dX4_of_54 : decode cX4_of 54 = .ok (.aload_n 0, 1) := by decide +kernel
theorem dX4_of_55 : decode cX4_of 55 = .ok (.getfield 12, 3) := by decide +kernel
theorem dX4_of_58 : decode cX4_of 58 = .ok (.getfield 112, 3) := by decide +kernel
theorem dX4_of_61 : decode cX4_of 61 = .ok (.iload_n 1, 1) := by decide +kernel
theorem dX4_of_62 : decode cX4_of 62 = .ok (.iaload, 1) := by decide +kernel
theorem dX4_of_63 : decode cX4_of 63 = .ok (.ireturn, 1) := by decide +kernel
theorem dX4_of_64 : decode cX4_of 64 = .ok (.aload_n 0, 1) := by decide +kernel
theorem dX4_of_65 : decode cX4_of 65 = .ok (.getfield 12, 3) := by decide +kernel
theorem dX4_of_68 : decode cX4_of 68 = .ok (.getfield 115, 3) := by decide +kernel
theorem dX4_of_71 : decode cX4_of 71 = .ok (.iload_n 1, 1) := by decide +kernel
theorem dX4_of_72 : decode cX4_of 72 = .ok (.iaload, 1) := by decide +kernel
theorem dX4_of_73 : decode cX4_of 73 = .ok (.ireturn, 1) := by decide +kernel
theorem dX4_of_74 : decode cX4_of 74 = .ok (.aload_n 0, 1) := by decide +kernel
theorem dX4_of_75 : decode cX4_of 75 = .ok (.getfield 12, 3) := by decide +kernel
theorem dX4_of_78 : decode cX4_of 78 = .ok (.getfield 118, 3) := by decide +kernel
theorem dX4_of_81 : decode cX4_of 81 = .ok (.iload_n 1, 1) := by decide +kernel
theorem dX4_of_82 : decode cX4_of 82 = .ok (.iaload, 1) := by decide +kernel
theorem dX4_of_83 : decode cX4_of 83 = .ok (.ireturn, 1) := by decide +kernel
theorem dX4_of_84 : decode cX4_of 84 = .ok (.aload_n 0, 1) := by decide +kernel
theorem dX4_of_85 : decode cX4_of 85 = .ok (.getfield 12, 3) := by decide +kernel
theorem dX4_of_88 : decode cX4_of 88 = .ok (.getfield 121, 3) := by decide +kernel
theorem dX4_of_91 : decode cX4_of 91 = .ok (.iload_n 1, 1) := by decide +kernel
theorem dX4_of_92 : decode cX4_of 92 = .ok (.iaload, 1) := by decide +kernel
theorem dX4_of_93 : decode cX4_of 93 = .ok (.ireturn, 1) := by decide +kernel
theorem dX4_of_94 : decode cX4_of 94 = .ok (.iconst (-1), 1) := by decide +kernel
theorem dX4_of_95 : decode cX4_of 95 = .ok (.ireturn, 1) := by decide +kernel
set_option maxRecDepth 20000 in
theorem ggX4_does_X4_isName : GoodIn wsX4_does wsX4_isName := goodIn_r _ [7, 1, 8, 9, 10, 6, 11, 36, 37, 38, 39, 40, 41, 42, 43, 44, 45, 46, 47, 48, 49, 50, 51, 52, 53, 54, 55, 56, 57, 58, 59, 60, 61, 62, 63, 64, 65] (by decide +kernel) (by decide +kernel)
set_option maxRecDepth 20000 in
theorem gX4_does_X4_isName : GoodIn wsX4_does (wsV RX4 105 RX4 yX4_isName wsX4_isName) := goodIn_app (goodIn_of _ (by decide +kernel)) ggX4_does_X4_isName
set_option maxRecDepth 20000 in
theorem ggX4_does_X4_isBelow : GoodIn wsX4_does wsX4_isBelow := goodIn_r _ [11] (by decide +kernel) (by decide +kernel)
set_option maxRecDepth 20000 in
theorem gX4_does_X4_isBelow : GoodIn wsX4_does (va_wsS RX4 91 yX4_isBelow wsX4_isBelow) := goodIn_app (goodIn_of _ (by decide +kernel)) ggX4_does_X4_isBelow
set_option maxRecDepth 20000 in
theorem ggX4_does_X2_backOf : GoodIn wsX4_does wsX2_backOf := goodIn_r _ [16, 17, 18, 51, 52, 53, 54, 55, 56, 57, 58, 59, 60, 61, 62, 63, 64, 65] (by decide +kernel) (by decide +kernel)
set_option maxRecDepth 20000 in
theorem gX4_does_X2_backOf : GoodIn wsX4_does (wsV RX4 124 RX2 yX2_backOf wsX2_backOf) := goodIn_app (goodIn_of _ (by decide +kernel)) ggX4_does_X2_backOf
set_option maxRecDepth 20000 in
theorem ggX4_does_X2_growsOf : GoodIn wsX4_does wsX2_growsOf := goodIn_r _ [22, 23, 24, 25, 17, 26, 27, 28, 15, 29, 30, 51, 52, 53, 54, 55, 56, 57, 58, 59, 60, 61, 62, 63, 64, 65] (by decide +kernel) (by decide +kernel)
set_option maxRecDepth 20000 in
theorem gX4_does_X2_growsOf : GoodIn wsX4_does (wsV RX4 128 RX2 yX2_growsOf wsX2_growsOf) := goodIn_app (goodIn_of _ (by decide +kernel)) ggX4_does_X2_growsOf
set_option maxRecDepth 20000 in
theorem ggX4_does_X2_holdsOf : GoodIn wsX4_does wsX2_holdsOf := goodIn_r _ [34, 35, 17, 25, 18, 26, 27, 28, 15, 29, 30, 23, 51, 52, 53, 54, 55, 56, 57, 58, 59, 60, 61, 62, 63, 64, 65] (by decide +kernel) (by decide +kernel)
set_option maxRecDepth 20000 in
theorem gX4_does_X2_holdsOf : GoodIn wsX4_does (wsV RX4 131 RX2 yX2_holdsOf wsX2_holdsOf) := goodIn_app (goodIn_of _ (by decide +kernel)) ggX4_does_X2_holdsOf
theorem dX4_does_0 : decode cX4_does 0 = .ok (.aload_n 0, 1) := by decide +kernel
theorem dX4_does_1 : decode cX4_does 1 = .ok (.iload_n 1, 1) := by decide +kernel
theorem dX4_does_2 : decode cX4_does 2 = .ok (.invokevirtual 105, 3) := by decide +kernel
theorem dX4_does_5 : decode cX4_does 5 = .ok (.ifCond .eq 11, 3) := by decide +kernel
theorem dX4_does_8 : decode cX4_does 8 = .ok (.iload_n 2, 1) := by decide +kernel
theorem dX4_does_9 : decode cX4_does 9 = .ok (.iconst 3, 1) := by decide +kernel
theorem dX4_does_10 : decode cX4_does 10 = .ok (.invokestatic 91, 3) := by decide +kernel
theorem dX4_does_13 : decode cX4_does 13 = .ok (.ifCond .ne 5, 3) := by decide +kernel
theorem dX4_does_16 : decode cX4_does 16 = .ok (.iconst (-1), 1) := by decide +kernel
theorem dX4_does_17 : decode cX4_does 17 = .ok (.ireturn, 1) := by decide +kernel
theorem dX4_does_18 : decode cX4_does 18 = .ok (.iload_n 2, 1) := by decide +kernel
theorem dX4_does_19 : decode cX4_does 19 = .ok (.iconst 2, 1) := by decide +kernel
theorem dX4_does_20 : decode cX4_does 20 = .ok (.if_icmp .ne 16, 3) := by decide +kernel
theorem dX4_does_23 : decode cX4_does 23 = .ok (.sipush 1000, 3) := by decide +kernel
theorem dX4_does_26 : decode cX4_does 26 = .ok (.aload_n 0, 1) := by decide +kernel
theorem dX4_does_27 : decode cX4_does 27 = .ok (.getfield 12, 3) := by decide +kernel
theorem dX4_does_30 : decode cX4_does 30 = .ok (.iload_n 1, 1) := by decide +kernel
theorem dX4_does_31 : decode cX4_does 31 = .ok (.invokevirtual 124, 3) := by decide +kernel
theorem dX4_does_34 : decode cX4_does 34 = .ok (.iadd, 1) := by decide +kernel
theorem dX4_does_35 : decode cX4_does 35 = .ok (.ireturn, 1) := by decide +kernel
theorem dX4_does_36 : decode cX4_does 36 = .ok (.aload_n 0, 1) := by decide +kernel
theorem dX4_does_37 : decode cX4_does 37 = .ok (.getfield 12, 3) := by decide +kernel
theorem dX4_does_40 : decode cX4_does 40 = .ok (.getfield 118, 3) := by decide +kernel
theorem dX4_does_43 : decode cX4_does 43 = .ok (.iload_n 1, 1) := by decide +kernel
theorem dX4_does_44 : decode cX4_does 44 = .ok (.iaload, 1) := by decide +kernel
theorem dX4_does_45 : decode cX4_does 45 = .ok (.bipush 10, 2) := by decide +kernel
theorem dX4_does_47 : decode cX4_does 47 = .ok (.if_icmp .ne 6, 3) := by decide +kernel
theorem dX4_does_50 : decode cX4_does 50 = .ok (.bipush (-3), 2) := by decide +kernel
theorem dX4_does_52 : decode cX4_does 52 = .ok (.ireturn, 1) := by decide +kernel
theorem dX4_does_53 : decode cX4_does 53 = .ok (.sipush 1000, 3) := by decide +kernel
theorem dX4_does_56 : decode cX4_does 56 = .ok (.iload_n 2, 1) := by decide +kernel
theorem dX4_does_57 : decode cX4_does 57 = .ok (.ifCond .ne 14, 3) := by decide +kernel
theorem dX4_does_60 : decode cX4_does 60 = .ok (.aload_n 0, 1) := by decide +kernel
theorem dX4_does_61 : decode cX4_does 61 = .ok (.getfield 12, 3) := by decide +kernel
