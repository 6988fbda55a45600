theorem dX5_init_0 : decode cX5_init 0 = .ok (.aload_n 0, 1) := by decide +kernel
theorem dX5_init_1 : decode cX5_init 1 = .ok (.invokespecial 1, 3) := by decide +kernel
theorem dX5_init_4 : decode cX5_init 4 = .ok (.aload_n 0, 1) := by decide +kernel
theorem dX5_init_5 : decode cX5_init 5 = .ok (.bipush 68, 2) := by decide +kernel
theorem dX5_init_7 : decode cX5_init 7 = .ok (.newarray .int, 2) := by decide +kernel
theorem dX5_init_9 : decode cX5_init 9 = .ok (.putfield 7, 3) := by decide +kernel
theorem dX5_init_12 : decode cX5_init 12 = .ok (.aload_n 0, 1) := by decide +kernel
theorem dX5_init_13 : decode cX5_init 13 = .ok (.bipush 68, 2) := by decide +kernel
theorem dX5_init_15 : decode cX5_init 15 = .ok (.newarray .int, 2) := by decide +kernel
theorem dX5_init_17 : decode cX5_init 17 = .ok (.putfield 13, 3) := by decide +kernel
theorem dX5_init_20 : decode cX5_init 20 = .ok (.aload_n 0, 1) := by decide +kernel
theorem dX5_init_21 : decode cX5_init 21 = .ok (.bipush 68, 2) := by decide +kernel
theorem dX5_init_23 : decode cX5_init 23 = .ok (.newarray .int, 2) := by decide +kernel
theorem dX5_init_25 : decode cX5_init 25 = .ok (.putfield 16, 3) := by decide +kernel
theorem dX5_init_28 : decode cX5_init 28 = .ok (.aload_n 0, 1) := by decide +kernel
theorem dX5_init_29 : decode cX5_init 29 = .ok (.bipush 68, 2) := by decide +kernel
theorem dX5_init_31 : decode cX5_init 31 = .ok (.newarray .int, 2) := by decide +kernel
theorem dX5_init_33 : decode cX5_init 33 = .ok (.putfield 19, 3) := by decide +kernel
theorem dX5_init_36 : decode cX5_init 36 = .ok (.aload_n 0, 1) := by decide +kernel
theorem dX5_init_37 : decode cX5_init 37 = .ok (.sipush 200, 3) := by decide +kernel
theorem dX5_init_40 : decode cX5_init 40 = .ok (.newarray .int, 2) := by decide +kernel
theorem dX5_init_42 : decode cX5_init 42 = .ok (.putfield 22, 3) := by decide +kernel
theorem dX5_init_45 : decode cX5_init 45 = .ok (.aload_n 0, 1) := by decide +kernel
theorem dX5_init_46 : decode cX5_init 46 = .ok (.bipush 8, 2) := by decide +kernel
theorem dX5_init_48 : decode cX5_init 48 = .ok (.newarray .int, 2) := by decide +kernel
theorem dX5_init_50 : decode cX5_init 50 = .ok (.putfield 25, 3) := by decide +kernel
theorem dX5_init_53 : decode cX5_init 53 = .ok (.aload_n 0, 1) := by decide +kernel
theorem dX5_init_54 : decode cX5_init 54 = .ok (.bipush 30, 2) := by decide +kernel
theorem dX5_init_56 : decode cX5_init 56 = .ok (.newarray .int, 2) := by decide +kernel
theorem dX5_init_58 : decode cX5_init 58 = .ok (.putfield 28, 3) := by decide +kernel
theorem dX5_init_61 : decode cX5_init 61 = .ok (.aload_n 0, 1) := by decide +kernel
theorem dX5_init_62 : decode cX5_init 62 = .ok (.bipush 30, 2) := by decide +kernel
theorem dX5_init_64 : decode cX5_init 64 = .ok (.newarray .int, 2) := by decide +kernel
theorem dX5_init_66 : decode cX5_init 66 = .ok (.putfield 31, 3) := by decide +kernel
theorem dX5_init_69 : decode cX5_init 69 = .ok (.aload_n 0, 1) := by decide +kernel
theorem dX5_init_70 : decode cX5_init 70 = .ok (.iconst 4, 1) := by decide +kernel
theorem dX5_init_71 : decode cX5_init 71 = .ok (.newarray .int, 2) := by decide +kernel
theorem dX5_init_73 : decode cX5_init 73 = .ok (.dup, 1) := by decide +kernel
theorem dX5_init_74 : decode cX5_init 74 = .ok (.iconst 0, 1) := by decide +kernel
theorem dX5_init_75 : decode cX5_init 75 = .ok (.iconst (-1), 1) := by decide +kernel
theorem dX5_init_76 : decode cX5_init 76 = .ok (.iastore, 1) := by decide +kernel
theorem dX5_init_77 : decode cX5_init 77 = .ok (.dup, 1) := by decide +kernel
theorem dX5_init_78 : decode cX5_init 78 = .ok (.iconst 1, 1) := by decide +kernel
theorem dX5_init_79 : decode cX5_init 79 = .ok (.iconst (-1), 1) := by decide +kernel
theorem dX5_init_80 : decode cX5_init 80 = .ok (.iastore, 1) := by decide +kernel
theorem dX5_init_81 : decode cX5_init 81 = .ok (.dup, 1) := by decide +kernel
theorem dX5_init_82 : decode cX5_init 82 = .ok (.iconst 2, 1) := by decide +kernel
theorem dX5_init_83 : decode cX5_init 83 = .ok (.iconst (-1), 1) := by decide +kernel
theorem dX5_init_84 : decode cX5_init 84 = .ok (.iastore, 1) := by decide +kernel
theorem dX5_init_85 : decode cX5_init 85 = .ok (.dup, 1) := by decide +kernel
theorem dX5_init_86 : decode cX5_init 86 = .ok (.iconst 3, 1) := by decide +kernel
theorem dX5_init_87 : decode cX5_init 87 = .ok (.iconst (-1), 1) := by decide +kernel
theorem dX5_init_88 : decode cX5_init 88 = .ok (.iastore, 1) := by decide +kernel
theorem dX5_init_89 : decode cX5_init 89 = .ok (.putfield 34, 3) := by decide +kernel
theorem dX5_init_92 : decode cX5_init 92 = .ok (.aload_n 0, 1) := by decide +kernel
theorem dX5_init_93 : decode cX5_init 93 = .ok (.iconst 4, 1) := by decide +kernel
theorem dX5_init_94 : decode cX5_init 94 = .ok (.newarray .int, 2) := by decide +kernel
theorem dX5_init_96 : decode cX5_init 96 = .ok (.putfield 37, 3) := by decide +kernel
theorem dX5_init_99 : decode cX5_init 99 = .ok (.aload_n 0, 1) := by decide +kernel
theorem dX5_init_100 : decode cX5_init 100 = .ok (.sipush 160, 3) := by decide +kernel
theorem dX5_init_103 : decode cX5_init 103 = .ok (.newarray .long, 2) := by decide +kernel
theorem dX5_init_105 : decode cX5_init 105 = .ok (.putfield 40, 3) := by decide +kernel
theorem dX5_init_108 : decode cX5_init 108 = .ok (.aload_n 0, 1) := by decide +kernel
theorem dX5_init_109 : decode cX5_init 109 = .ok (.iconst 4, 1) := by decide +kernel
theorem dX5_init_110 : decode cX5_init 110 = .ok (.newarray .int, 2) := by decide +kernel
theorem dX5_init_112 : decode cX5_init 112 = .ok (.dup, 1) := by decide +kernel
theorem dX5_init_113 : decode cX5_init 113 = .ok (.iconst 0, 1) := by decide +kernel
theorem dX5_init_114 : decode cX5_init 114 = .ok (.iconst (-1), 1) := by decide +kernel
theorem dX5_init_115 : decode cX5_init 115 = .ok (.iastore, 1) := by decide +kernel
theorem dX5_init_116 : decode cX5_init 116 = .ok (.dup, 1) := by decide +kernel
theorem dX5_init_117 : decode cX5_init 117 = .ok (.iconst 1, 1) := by decide +kernel
theorem dX5_init_118 : decode cX5_init 118 = .ok (.iconst (-1), 1) := by decide +kernel
theorem dX5_init_119 : decode cX5_init 119 = .ok (.iastore, 1) := by decide +kernel
theorem dX5_init_120 : decode cX5_init 120 = .ok (.dup, 1) := by decide +kernel
theorem dX5_init_121 : decode cX5_init 121 = .ok (.iconst 2, 1) := by decide +kernel
theorem dX5_init_122 : decode cX5_init 122 = .ok (.iconst (-1), 1) := by decide +kernel
theorem dX5_init_123 : decode cX5_init 123 = .ok (.iastore, 1) := by decide +kernel
theorem dX5_init_124 : decode cX5_init 124 = .ok (.dup, 1) := by decide +kernel
theorem dX5_init_125 : decode cX5_init 125 = .ok (.iconst 3, 1) := by decide +kernel
theorem dX5_init_126 : decode cX5_init 126 = .ok (.iconst (-1), 1) := by decide +kernel
theorem dX5_init_127 : decode cX5_init 127 = .ok (.iastore, 1) := by decide +kernel
theorem dX5_init_128 : decode cX5_init 128 = .ok (.putfield 44, 3) := by decide +kernel
theorem dX5_init_131 : decode cX5_init 131 = .ok (.aload_n 0, 1) := by decide +kernel
theorem dX5_init_132 : decode cX5_init 132 = .ok (.iconst 4, 1) := by decide +kernel
theorem dX5_init_133 : decode cX5_init 133 = .ok (.newarray .int, 2) := by decide +kernel
theorem dX5_init_135 : decode cX5_init 135 = .ok (.putfield 47, 3) := by decide +kernel
theorem dX5_init_138 : decode cX5_init 138 = .ok (.aload_n 0, 1) := by decide +kernel
theorem dX5_init_139 : decode cX5_init 139 = .ok (.iconst 4, 1) := by decide +kernel
theorem dX5_init_140 : decode cX5_init 140 = .ok (.newarray .int, 2) := by decide +kernel
theorem dX5_init_142 : decode cX5_init 142 = .ok (.putfield 50, 3) := by decide +kernel
theorem dX5_init_145 : decode cX5_init 145 = .ok (.aload_n 0, 1) := by decide +kernel
theorem dX5_init_146 : decode cX5_init 146 = .ok (.bipush 30, 2) := by decide +kernel
theorem dX5_init_148 : decode cX5_init 148 = .ok (.newarray .int, 2) := by decide +kernel
theorem dX5_init_150 : decode cX5_init 150 = .ok (.putfield 53, 3) := by decide +kernel
theorem dX5_init_153 : decode cX5_init 153 = .ok (.aload_n 0, 1) := by decide +kernel
theorem dX5_init_154 : decode cX5_init 154 = .ok (.getfield 7, 3) := by decide +kernel
theorem dX5_init_157 : decode cX5_init 157 = .ok (.invokestatic 56, 3) := by decide +kernel
theorem dX5_init_160 : decode cX5_init 160 = .ok (.aload_n 0, 1) := by decide +kernel
theorem dX5_init_161 : decode cX5_init 161 = .ok (.getfield 7, 3) := by decide +kernel
theorem dX5_init_164 : decode cX5_init 164 = .ok (.bipush 7, 2) := by decide +kernel
theorem dX5_init_166 : decode cX5_init 166 = .ok (.iconst 1, 1) := by decide +kernel
theorem dX5_init_167 : decode cX5_init 167 = .ok (.iastore, 1) := by decide +kernel
theorem dX5_init_168 : decode cX5_init 168 = .ok (.return_, 1) := by decide +kernel
theorem dX5_begins_0 : decode cX5_begins 0 = .ok (.iconst 0, 1) := by decide +kernel
theorem dX5_begins_1 : decode cX5_begins 1 = .ok (.istore_n 1, 1) := by decide +kernel
theorem dX5_begins_2 : decode cX5_begins 2 = .ok (.iload_n 1, 1) := by decide +kernel
theorem dX5_begins_3 : decode cX5_begins 3 = .ok (.bipush 68, 2) := by decide +kernel
theorem dX5_begins_5 : decode cX5_begins 5 = .ok (.if_icmp .ge 13, 3) := by decide +kernel
theorem dX5_begins_8 : decode cX5_begins 8 = .ok (.aload_n 0, 1) := by decide +kernel
theorem dX5_begins_9 : decode cX5_begins 9 = .ok (.iload_n 1, 1) := by decide +kernel
theorem dX5_begins_10 : decode cX5_begins 10 = .ok (.iconst 0, 1) := by decide +kernel
theorem dX5_begins_11 : decode cX5_begins 11 = .ok (.iastore, 1) := by decide +kernel
theorem dX5_begins_12 : decode cX5_begins 12 = .ok (.iinc 1 1, 3) := by decide +kernel
theorem dX5_begins_15 : decode cX5_begins 15 = .ok (.goto (-13), 3) := by decide +kernel
theorem dX5_begins_18 : decode cX5_begins 18 = .ok (.aload_n 0, 1) := by decide +kernel
theorem dX5_begins_19 : decode cX5_begins 19 = .ok (.iconst 0, 1) := by decide +kernel
theorem dX5_begins_20 : decode cX5_begins 20 = .ok (.iconst 1, 1) := by decide +kernel
theorem dX5_begins_21 : decode cX5_begins 21 = .ok (.iastore, 1) := by decide +kernel
theorem dX5_begins_22 : decode cX5_begins 22 = .ok (.aload_n 0, 1) := by decide +kernel
theorem dX5_begins_23 : decode cX5_begins 23 = .ok (.iconst 1, 1) := by decide +kernel
theorem dX5_begins_24 : decode cX5_begins 24 = .ok (.iconst 2, 1) := by decide +kernel
theorem dX5_begins_25 : decode cX5_begins 25 = .ok (.iastore, 1) := by decide +kernel
theorem dX5_begins_26 : decode cX5_begins 26 = .ok (.aload_n 0, 1) := by decide +kernel
theorem dX5_begins_27 : decode cX5_begins 27 = .ok (.iconst 2, 1) := by decide +kernel
theorem dX5_begins_28 : decode cX5_begins 28 = .ok (.bipush 30, 2) := by decide +kernel
theorem dX5_begins_30 : decode cX5_begins 30 = .ok (.iastore, 1) := by decide +kernel
theorem dX5_begins_31 : decode cX5_begins 31 = .ok (.aload_n 0, 1) := by decide +kernel
theorem dX5_begins_32 : decode cX5_begins 32 = .ok (.iconst 3, 1) := by decide +kernel
theorem dX5_begins_33 : decode cX5_begins 33 = .ok (.bipush 20, 2) := by decide +kernel
theorem dX5_begins_35 : decode cX5_begins 35 = .ok (.iastore, 1) := by decide +kernel
theorem dX5_begins_36 : decode cX5_begins 36 = .ok (.iconst 0, 1) := by decide +kernel
theorem dX5_begins_37 : decode cX5_begins 37 = .ok (.istore_n 1, 1) := by decide +kernel
theorem dX5_begins_38 : decode cX5_begins 38 = .ok (.iload_n 1, 1) := by decide +kernel
theorem dX5_begins_39 : decode cX5_begins 39 = .ok (.bipush 10, 2) := by decide +kernel
theorem dX5_begins_41 : decode cX5_begins 41 = .ok (.if_icmp .ge 20, 3) := by decide +kernel
theorem dX5_begins_44 : decode cX5_begins 44 = .ok (.aload_n 0, 1) := by decide +kernel
theorem dX5_begins_45 : decode cX5_begins 45 = .ok (.bipush 8, 2) := by decide +kernel
theorem dX5_begins_47 : decode cX5_begins 47 = .ok (.iconst 2, 1) := by decide +kernel
theorem dX5_begins_48 : decode cX5_begins 48 = .ok (.iload_n 1, 1) := by decide +kernel
theorem dX5_begins_49 : decode cX5_begins 49 = .ok (.imul, 1) := by decide +kernel
theorem dX5_begins_50 : decode cX5_begins 50 = .ok (.iadd, 1) := by decide +kernel
theorem dX5_begins_51 : decode cX5_begins 51 = .ok (.iconst 1, 1) := by decide +kernel
theorem dX5_begins_52 : decode cX5_begins 52 = .ok (.iadd, 1) := by decide +kernel
theorem dX5_begins_53 : decode cX5_begins 53 = .ok (.iconst 3, 1) := by decide +kernel
theorem dX5_begins_54 : decode cX5_begins 54 = .ok (.iastore, 1) := by decide +kernel
theorem dX5_begins_55 : decode cX5_begins 55 = .ok (.iinc 1 1, 3) := by decide +kernel
theorem dX5_begins_58 : decode cX5_begins 58 = .ok (.goto (-20), 3) := by decide +kernel
theorem dX5_begins_61 : decode cX5_begins 61 = .ok (.return_, 1) := by decide +kernel
theorem dX5_in_0 : decode cX5_in 0 = .ok (.iload_n 0, 1) := by decide +kernel
theorem dX5_in_1 : decode cX5_in 1 = .ok (.iload_n 1, 1) := by decide +kernel
theorem dX5_in_2 : decode cX5_in 2 = .ok (.if_icmp .lt 12, 3) := by decide +kernel
theorem dX5_in_5 : decode cX5_in 5 = .ok (.iload_n 0, 1) := by decide +kernel
theorem dX5_in_6 : decode cX5_in 6 = .ok (.iload_n 2, 1) := by decide +kernel
theorem dX5_in_7 : decode cX5_in 7 = .ok (.if_icmp .gt 7, 3) := by decide +kernel
theorem dX5_in_10 : decode cX5_in 10 = .ok (.iconst 1, 1) := by decide +kernel
theorem dX5_in_11 : decode cX5_in 11 = .ok (.goto 4, 3) := by decide +kernel
theorem dX5_in_14 : decode cX5_in 14 = .ok (.iconst 0, 1) := by decide +kernel
theorem dX5_in_15 : decode cX5_in 15 = .ok (.ireturn, 1) := by decide +kernel
theorem dX5_held_0 : decode cX5_held 0 = .ok (.iload_n 0, 1) := by decide +kernel
theorem dX5_held_1 : decode cX5_held 1 = .ok (.iload_n 1, 1) := by decide +kernel
theorem dX5_held_2 : decode cX5_held 2 = .ok (.if_icmp .ge 7, 3) := by decide +kernel
theorem dX5_held_5 : decode cX5_held 5 = .ok (.iload_n 1, 1) := by decide +kernel
theorem dX5_held_6 : decode cX5_held 6 = .ok (.goto 13, 3) := by decide +kernel
theorem dX5_held_9 : decode cX5_held 9 = .ok (.iload_n 0, 1) := by decide +kernel
theorem dX5_held_10 : decode cX5_held 10 = .ok (.iload_n 2, 1) := by decide +kernel
theorem dX5_held_11 : decode cX5_held 11 = .ok (.if_icmp .le 7, 3) := by decide +kernel
theorem dX5_held_14 : decode cX5_held 14 = .ok (.iload_n 2, 1) := by decide +kernel
theorem dX5_held_15 : decode cX5_held 15 = .ok (.goto 4, 3) := by decide +kernel
theorem dX5_held_18 : decode cX5_held 18 = .ok (.iload_n 0, 1) := by decide +kernel
theorem dX5_held_19 : decode cX5_held 19 = .ok (.ireturn, 1) := by decide +kernel
theorem dX5_moveAll_0 : decode cX5_moveAll 0 = .ok (.iconst 0, 1) := by decide +kernel
theorem dX5_moveAll_1 : decode cX5_moveAll 1 = .ok (.istore_n 2, 1) := by decide +kernel
theorem dX5_moveAll_2 : decode cX5_moveAll 2 = .ok (.iload_n 2, 1) := by decide +kernel
theorem dX5_moveAll_3 : decode cX5_moveAll 3 = .ok (.bipush 68, 2) := by decide +kernel
theorem dX5_moveAll_5 : decode cX5_moveAll 5 = .ok (.if_icmp .ge 15, 3) := by decide +kernel
theorem dX5_moveAll_8 : decode cX5_moveAll 8 = .ok (.aload_n 1, 1) := by decide +kernel
theorem dX5_moveAll_9 : decode cX5_moveAll 9 = .ok (.iload_n 2, 1) := by decide +kernel
theorem dX5_moveAll_10 : decode cX5_moveAll 10 = .ok (.aload_n 0, 1) := by decide +kernel
theorem dX5_moveAll_11 : decode cX5_moveAll 11 = .ok (.iload_n 2, 1) := by decide +kernel
theorem dX5_moveAll_12 : decode cX5_moveAll 12 = .ok (.iaload, 1) := by decide +kernel
theorem dX5_moveAll_13 : decode cX5_moveAll 13 = .ok (.iastore, 1) := by decide +kernel
theorem dX5_moveAll_14 : decode cX5_moveAll 14 = .ok (.iinc 2 1, 3) := by decide +kernel
theorem dX5_moveAll_17 : decode cX5_moveAll 17 = .ok (.goto (-15), 3) := by decide +kernel
theorem dX5_moveAll_20 : decode cX5_moveAll 20 = .ok (.return_, 1) := by decide +kernel
set_option maxRecDepth 20000 in
theorem ggX5_isOne_X5_in : GoodIn wsX5_isOne wsX5_in := goodIn_r _ [5] (by decide +kernel) (by decide +kernel)
set_option maxRecDepth 20000 in
theorem gX5_isOne_X5_in : GoodIn wsX5_isOne (va_wsS RX5 60 yX5_in wsX5_in) := goodIn_app (goodIn_of _ (by decide +kernel)) ggX5_isOne_X5_in
theorem dX5_isOne_0 : decode cX5_isOne 0 = .ok (.iload_n 1, 1) := by decide +kernel
theorem dX5_isOne_1 : decode cX5_isOne 1 = .ok (.iconst 0, 1) := by decide +kernel
theorem dX5_isOne_2 : decode cX5_isOne 2 = .ok (.aload_n 0, 1) := by decide +kernel
theorem dX5_isOne_3 : decode cX5_isOne 3 = .ok (.getfield 7, 3) := by decide +kernel
theorem dX5_isOne_6 : decode cX5_isOne 6 = .ok (.bipush 6, 2) := by decide +kernel
theorem dX5_isOne_8 : decode cX5_isOne 8 = .ok (.iaload, 1) := by decide +kernel
theorem dX5_isOne_9 : decode cX5_isOne 9 = .ok (.iconst 1, 1) := by decide +kernel
theorem dX5_isOne_10 : decode cX5_isOne 10 = .ok (.isub, 1) := by decide +kernel
theorem dX5_isOne_11 : decode cX5_isOne 11 = .ok (.invokestatic 60, 3) := by decide +kernel
theorem dX5_isOne_14 : decode cX5_isOne 14 = .ok (.ireturn, 1) := by decide +kernel
theorem dX5_its_0 : decode cX5_its 0 = .ok (.aload_n 0, 1) := by decide +kernel
theorem dX5_its_1 : decode cX5_its 1 = .ok (.getfield 7, 3) := by decide +kernel
theorem dX5_its_4 : decode cX5_its 4 = .ok (.bipush 28, 2) := by decide +kernel
theorem dX5_its_6 : decode cX5_its 6 = .ok (.iconst 5, 1) := by decide +kernel
theorem dX5_its_7 : decode cX5_its 7 = .ok (.iload_n 1, 1) := by decide +kernel
theorem dX5_its_8 : decode cX5_its 8 = .ok (.imul, 1) := by decide +kernel
theorem dX5_its_9 : decode cX5_its 9 = .ok (.iadd, 1) := by decide +kernel
theorem dX5_its_10 : decode cX5_its 10 = .ok (.iload_n 2, 1) := by decide +kernel
theorem dX5_its_11 : decode cX5_its 11 = .ok (.iadd, 1) := by decide +kernel
theorem dX5_its_12 : decode cX5_its 12 = .ok (.iaload, 1) := by decide +kernel
theorem dX5_its_13 : decode cX5_its 13 = .ok (.ireturn, 1) := by decide +kernel
theorem dX5_sets_0 : decode cX5_sets 0 = .ok (.aload_n 0, 1) := by decide +kernel
theorem dX5_sets_1 : decode cX5_sets 1 = .ok (.getfield 7, 3) := by decide +kernel
theorem dX5_sets_4 : decode cX5_sets 4 = .ok (.bipush 28, 2) := by decide +kernel
theorem dX5_sets_6 : decode cX5_sets 6 = .ok (.iconst 5, 1) := by decide +kernel
theorem dX5_sets_7 : decode cX5_sets 7 = .ok (.iload_n 1, 1) := by decide +kernel
theorem dX5_sets_8 : decode cX5_sets 8 = .ok (.imul, 1) := by decide +kernel
theorem dX5_sets_9 : decode cX5_sets 9 = .ok (.iadd, 1) := by decide +kernel
theorem dX5_sets_10 : decode cX5_sets 10 = .ok (.iload_n 2, 1) := by decide +kernel
theorem dX5_sets_11 : decode cX5_sets 11 = .ok (.iadd, 1) := by decide +kernel
theorem dX5_sets_12 : decode cX5_sets 12 = .ok (.iload_n 3, 1) := by decide +kernel
theorem dX5_sets_13 : decode cX5_sets 13 = .ok (.iastore, 1) := by decide +kernel
theorem dX5_sets_14 : decode cX5_sets 14 = .ok (.return_, 1) := by decide +kernel
set_option maxRecDepth 20000 in
theorem ggX5_isWall_X5_in : GoodIn wsX5_isWall wsX5_in := goodIn_r _ [4] (by decide +kernel) (by decide +kernel)
set_option maxRecDepth 20000 in
theorem gX5_isWall_X5_in : GoodIn wsX5_isWall (va_wsS RX5 60 yX5_in wsX5_in) := goodIn_app (goodIn_of _ (by decide +kernel)) ggX5_isWall_X5_in
theorem dX5_isWall_0 : decode cX5_isWall 0 = .ok (.iload_n 0, 1) := by decide +kernel
theorem dX5_isWall_1 : decode cX5_isWall 1 = .ok (.iconst 0, 1) := by decide +kernel
theorem dX5_isWall_2 : decode cX5_isWall 2 = .ok (.bipush 9, 2) := by decide +kernel
theorem dX5_isWall_4 : decode cX5_isWall 4 = .ok (.invokestatic 60, 3) := by decide +kernel
theorem dX5_isWall_7 : decode cX5_isWall 7 = .ok (.ireturn, 1) := by decide +kernel
theorem dX5_ground_0 : decode cX5_ground 0 = .ok (.aload_n 0, 1) := by decide +kernel
theorem dX5_ground_1 : decode cX5_ground 1 = .ok (.getfield 7, 3) := by decide +kernel
theorem dX5_ground_4 : decode cX5_ground 4 = .ok (.bipush 8, 2) := by decide +kernel
theorem dX5_ground_6 : decode cX5_ground 6 = .ok (.iconst 2, 1) := by decide +kernel
theorem dX5_ground_7 : decode cX5_ground 7 = .ok (.iload_n 1, 1) := by decide +kernel
theorem dX5_ground_8 : decode cX5_ground 8 = .ok (.imul, 1) := by decide +kernel
theorem dX5_ground_9 : decode cX5_ground 9 = .ok (.iadd, 1) := by decide +kernel
theorem dX5_ground_10 : decode cX5_ground 10 = .ok (.iaload, 1) := by decide +kernel
theorem dX5_ground_11 : decode cX5_ground 11 = .ok (.ireturn, 1) := by decide +kernel
theorem dX5_becomes_0 : decode cX5_becomes 0 = .ok (.aload_n 0, 1) := by decide +kernel
theorem dX5_becomes_1 : decode cX5_becomes 1 = .ok (.getfield 7, 3) := by decide +kernel
theorem dX5_becomes_4 : decode cX5_becomes 4 = .ok (.iload_n 1, 1) := by decide +kernel
theorem dX5_becomes_5 : decode cX5_becomes 5 = .ok (.iaload, 1) := by decide +kernel
theorem dX5_becomes_6 : decode cX5_becomes 6 = .ok (.istore_n 3, 1) := by decide +kernel
theorem dX5_becomes_7 : decode cX5_becomes 7 = .ok (.aload_n 0, 1) := by decide +kernel
theorem dX5_becomes_8 : decode cX5_becomes 8 = .ok (.getfield 7, 3) := by decide +kernel
theorem dX5_becomes_11 : decode cX5_becomes 11 = .ok (.iload_n 1, 1) := by decide +kernel
theorem dX5_becomes_12 : decode cX5_becomes 12 = .ok (.iload_n 2, 1) := by decide +kernel
theorem dX5_becomes_13 : decode cX5_becomes 13 = .ok (.iastore, 1) := by decide +kernel
theorem dX5_becomes_14 : decode cX5_becomes 14 = .ok (.iload_n 3, 1) := by decide +kernel
theorem dX5_becomes_15 : decode cX5_becomes 15 = .ok (.ireturn, 1) := by decide +kernel
theorem dX5_ones_0 : decode cX5_ones 0 = .ok (.iconst 0, 1) := by decide +kernel
theorem dX5_ones_1 : decode cX5_ones 1 = .ok (.istore_n 1, 1) := by decide +kernel
theorem dX5_ones_2 : decode cX5_ones 2 = .ok (.iload_n 0, 1) := by decide +kernel
theorem dX5_ones_3 : decode cX5_ones 3 = .ok (.istore_n 2, 1) := by decide +kernel
theorem dX5_ones_4 : decode cX5_ones 4 = .ok (.iload_n 2, 1) := by decide +kernel
theorem dX5_ones_5 : decode cX5_ones 5 = .ok (.ifCond .eq 15, 3) := by decide +kernel
theorem dX5_ones_8 : decode cX5_ones 8 = .ok (.iinc 1 1, 3) := by decide +kernel
theorem dX5_ones_11 : decode cX5_ones 11 = .ok (.iload_n 2, 1) := by decide +kernel
theorem dX5_ones_12 : decode cX5_ones 12 = .ok (.iload_n 2, 1) := by decide +kernel
theorem dX5_ones_13 : decode cX5_ones 13 = .ok (.iconst 1, 1) := by decide +kernel
theorem dX5_ones_14 : decode cX5_ones 14 = .ok (.isub, 1) := by decide +kernel
theorem dX5_ones_15 : decode cX5_ones 15 = .ok (.iand, 1) := by decide +kernel
theorem dX5_ones_16 : decode cX5_ones 16 = .ok (.istore_n 2, 1) := by decide +kernel
theorem dX5_ones_17 : decode cX5_ones 17 = .ok (.goto (-13), 3) := by decide +kernel
theorem dX5_ones_20 : decode cX5_ones 20 = .ok (.iload_n 1, 1) := by decide +kernel
theorem dX5_ones_21 : decode cX5_ones 21 = .ok (.ireturn, 1) := by decide +kernel
set_option maxRecDepth 20000 in
theorem ggX5_feed_X5_in : GoodIn wsX5_feed wsX5_in := goodIn_r _ [7] (by decide +kernel) (by decide +kernel)
set_option maxRecDepth 20000 in
theorem gX5_feed_X5_in : GoodIn wsX5_feed (va_wsS RX5 60 yX5_in wsX5_in) := goodIn_app (goodIn_of _ (by decide +kernel)) ggX5_feed_X5_in
theorem dX5_feed_0 : decode cX5_feed 0 = .ok (.iload_n 3, 1) := by decide +kernel
theorem dX5_feed_1 : decode cX5_feed 1 = .ok (.iconst 1, 1) := by decide +kernel
theorem dX5_feed_2 : decode cX5_feed 2 = .ok (.bipush 8, 2) := by decide +kernel
theorem dX5_feed_4 : decode cX5_feed 4 = .ok (.invokestatic 60, 3) := by decide +kernel
theorem dX5_feed_7 : decode cX5_feed 7 = .ok (.ifCond .ne 5, 3) := by decide +kernel
theorem dX5_feed_10 : decode cX5_feed 10 = .ok (.iconst (-1), 1) := by decide +kernel
theorem dX5_feed_11 : decode cX5_feed 11 = .ok (.ireturn, 1) := by decide +kernel
theorem dX5_feed_12 : decode cX5_feed 12 = .ok (.aload_n 0, 1) := by decide +kernel
theorem dX5_feed_13 : decode cX5_feed 13 = .ok (.getfield 64, 3) := by decide +kernel
theorem dX5_feed_16 : decode cX5_feed 16 = .ok (.iload_n 3, 1) := by decide +kernel
theorem dX5_feed_17 : decode cX5_feed 17 = .ok (.iadd, 1) := by decide +kernel
theorem dX5_feed_18 : decode cX5_feed 18 = .ok (.sipush 200, 3) := by decide +kernel
theorem dX5_feed_21 : decode cX5_feed 21 = .ok (.if_icmp .le 6, 3) := by decide +kernel
theorem dX5_feed_24 : decode cX5_feed 24 = .ok (.bipush (-2), 2) := by decide +kernel
theorem dX5_feed_26 : decode cX5_feed 26 = .ok (.ireturn, 1) := by decide +kernel
theorem dX5_feed_27 : decode cX5_feed 27 = .ok (.iconst 0, 1) := by decide +kernel
theorem dX5_feed_28 : decode cX5_feed 28 = .ok (.istore 4, 2) := by decide +kernel
theorem dX5_feed_30 : decode cX5_feed 30 = .ok (.iload 4, 2) := by decide +kernel
theorem dX5_feed_32 : decode cX5_feed 32 = .ok (.iload_n 3, 1) := by decide +kernel
theorem dX5_feed_33 : decode cX5_feed 33 = .ok (.if_icmp .ge 40, 3) := by decide +kernel
theorem dX5_feed_36 : decode cX5_feed 36 = .ok (.aload_n 0, 1) := by decide +kernel
theorem dX5_feed_37 : decode cX5_feed 37 = .ok (.getfield 22, 3) := by decide +kernel
theorem dX5_feed_40 : decode cX5_feed 40 = .ok (.aload_n 0, 1) := by decide +kernel
theorem dX5_feed_41 : decode cX5_feed 41 = .ok (.getfield 64, 3) := by decide +kernel
theorem dX5_feed_44 : decode cX5_feed 44 = .ok (.lload_n 1, 1) := by decide +kernel
theorem dX5_feed_45 : decode cX5_feed 45 = .ok (.bipush 8, 2) := by decide +kernel
theorem dX5_feed_47 : decode cX5_feed 47 = .ok (.iload 4, 2) := by decide +kernel
theorem dX5_feed_49 : decode cX5_feed 49 = .ok (.imul, 1) := by decide +kernel
theorem dX5_feed_50 : decode cX5_feed 50 = .ok (.lshr, 1) := by decide +kernel
theorem dX5_feed_51 : decode cX5_feed 51 = .ok (.ldc2_w 68, 3) := by decide +kernel
theorem dX5_feed_54 : decode cX5_feed 54 = .ok (.land, 1) := by decide +kernel
theorem dX5_feed_55 : decode cX5_feed 55 = .ok (.l2i, 1) := by decide +kernel
theorem dX5_feed_56 : decode cX5_feed 56 = .ok (.iastore, 1) := by decide +kernel
theorem dX5_feed_57 : decode cX5_feed 57 = .ok (.aload_n 0, 1) := by decide +kernel
theorem dX5_feed_58 : decode cX5_feed 58 = .ok (.dup, 1) := by decide +kernel
theorem dX5_feed_59 : decode cX5_feed 59 = .ok (.getfield 64, 3) := by decide +kernel
theorem dX5_feed_62 : decode cX5_feed 62 = .ok (.iconst 1, 1) := by decide +kernel
theorem dX5_feed_63 : decode cX5_feed 63 = .ok (.iadd, 1) := by decide +kernel
theorem dX5_feed_64 : decode cX5_feed 64 = .ok (.putfield 64, 3) := by decide +kernel
theorem dX5_feed_67 : decode cX5_feed 67 = .ok (.iinc 4 1, 3) := by decide +kernel
theorem dX5_feed_70 : decode cX5_feed 70 = .ok (.goto (-40), 3) := by decide +kernel
theorem dX5_feed_73 : decode cX5_feed 73 = .ok (.aload_n 0, 1) := by decide +kernel
theorem dX5_feed_74 : decode cX5_feed 74 = .ok (.getfield 64, 3) := by decide +kernel
theorem dX5_feed_77 : decode cX5_feed 77 = .ok (.ireturn, 1) := by decide +kernel
theorem dX5_byteAt_0 : decode cX5_byteAt 0 = .ok (.iload_n 1, 1) := by decide +kernel
theorem dX5_byteAt_1 : decode cX5_byteAt 1 = .ok (.aload_n 0, 1) := by decide +kernel
theorem dX5_byteAt_2 : decode cX5_byteAt 2 = .ok (.getfield 64, 3) := by decide +kernel
theorem dX5_byteAt_5 : decode cX5_byteAt 5 = .ok (.if_icmp .ge 12, 3) := by decide +kernel
theorem dX5_byteAt_8 : decode cX5_byteAt 8 = .ok (.aload_n 0, 1) := by decide +kernel
theorem dX5_byteAt_9 : decode cX5_byteAt 9 = .ok (.getfield 22, 3) := by decide +kernel
theorem dX5_byteAt_12 : decode cX5_byteAt 12 = .ok (.iload_n 1, 1) := by decide +kernel
theorem dX5_byteAt_13 : decode cX5_byteAt 13 = .ok (.iaload, 1) := by decide +kernel
theorem dX5_byteAt_14 : decode cX5_byteAt 14 = .ok (.goto 4, 3) := by decide +kernel
theorem dX5_byteAt_17 : decode cX5_byteAt 17 = .ok (.iconst (-1), 1) := by decide +kernel
theorem dX5_byteAt_18 : decode cX5_byteAt 18 = .ok (.ireturn, 1) := by decide +kernel
set_option maxRecDepth 20000 in
theorem ggX5_isLetter_X5_in : GoodIn wsX5_isLetter wsX5_in := goodIn_r _ [4] (by decide +kernel) (by decide +kernel)
set_option maxRecDepth 20000 in
theorem gX5_isLetter_X5_in : GoodIn wsX5_isLetter (va_wsS RX5 60 yX5_in wsX5_in) := goodIn_app (goodIn_of _ (by decide +kernel)) ggX5_isLetter_X5_in
theorem dX5_isLetter_0 : decode cX5_isLetter 0 = .ok (.iload_n 0, 1) := by decide +kernel
theorem dX5_isLetter_1 : decode cX5_isLetter 1 = .ok (.bipush 97, 2) := by decide +kernel
theorem dX5_isLetter_3 : decode cX5_isLetter 3 = .ok (.bipush 122, 2) := by decide +kernel
theorem dX5_isLetter_5 : decode cX5_isLetter 5 = .ok (.invokestatic 60, 3) := by decide +kernel
theorem dX5_isLetter_8 : decode cX5_isLetter 8 = .ok (.ireturn, 1) := by decide +kernel
set_option maxRecDepth 20000 in
theorem ggX5_isDigit_X5_in : GoodIn wsX5_isDigit wsX5_in := goodIn_r _ [4] (by decide +kernel) (by decide +kernel)
set_option maxRecDepth 20000 in
theorem gX5_isDigit_X5_in : GoodIn wsX5_isDigit (va_wsS RX5 60 yX5_in wsX5_in) := goodIn_app (goodIn_of _ (by decide +kernel)) ggX5_isDigit_X5_in
theorem dX5_isDigit_0 : decode cX5_isDigit 0 = .ok (.iload_n 0, 1) := by decide +kernel
theorem dX5_isDigit_1 : decode cX5_isDigit 1 = .ok (.bipush 48, 2) := by decide +kernel
theorem dX5_isDigit_3 : decode cX5_isDigit 3 = .ok (.bipush 57, 2) := by decide +kernel
theorem dX5_isDigit_5 : decode cX5_isDigit 5 = .ok (.invokestatic 60, 3) := by decide +kernel
theorem dX5_isDigit_8 : decode cX5_isDigit 8 = .ok (.ireturn, 1) := by decide +kernel
set_option maxRecDepth 20000 in
theorem ggX5_advance_X5_byteAt : GoodIn wsX5_advance wsX5_byteAt := goodIn_r _ [13, 14, 15, 25, 26, 27, 28, 29, 30, 31, 32, 33, 34, 35, 36, 37, 38, 39, 40, 41, 42, 43, 44, 45, 46, 47, 48, 49, 50, 51, 52, 53, 54] (by decide +kernel) (by decide +kernel)
set_option maxRecDepth 20000 in
theorem gX5_advance_X5_byteAt : GoodIn wsX5_advance (wsV RX5 75 RX5 yX5_byteAt wsX5_byteAt) := goodIn_app (goodIn_of _ (by decide +kernel)) ggX5_advance_X5_byteAt
set_option maxRecDepth 20000 in
theorem ggX5_advance_X5_isLetter : GoodIn wsX5_advance wsX5_isLetter := goodIn_r _ [18, 19, 20, 12, 21] (by decide +kernel) (by decide +kernel)
set_option maxRecDepth 20000 in
theorem gX5_advance_X5_isLetter : GoodIn wsX5_advance (va_wsS RX5 79 yX5_isLetter wsX5_isLetter) := goodIn_app (goodIn_of _ (by decide +kernel)) ggX5_advance_X5_isLetter
set_option maxRecDepth 20000 in
theorem ggX5_advance_X5_isDigit : GoodIn wsX5_advance wsX5_isDigit := goodIn_r _ [24, 19, 20, 12, 21] (by decide +kernel) (by decide +kernel)
set_option maxRecDepth 20000 in
theorem gX5_advance_X5_isDigit : GoodIn wsX5_advance (va_wsS RX5 83 yX5_isDigit wsX5_isDigit) := goodIn_app (goodIn_of _ (by decide +kernel)) ggX5_advance_X5_isDigit
theorem dX5_advance_0 : decode cX5_advance 0 = .ok (.aload_n 0, 1) := by decide +kernel
theorem dX5_advance_1 : decode cX5_advance 1 = .ok (.aload_n 0, 1) := by decide +kernel
theorem dX5_advance_2 : decode cX5_advance 2 = .ok (.getfield 70, 3) := by decide +kernel
theorem dX5_advance_5 : decode cX5_advance 5 = .ok (.putfield 73, 3) := by decide +kernel
theorem dX5_advance_8 : decode cX5_advance 8 = .ok (.aload_n 0, 1) := by decide +kernel
theorem dX5_advance_9 : decode cX5_advance 9 = .ok (.aload_n 0, 1) := by decide +kernel
theorem dX5_advance_10 : decode cX5_advance 10 = .ok (.getfield 73, 3) := by decide +kernel
theorem dX5_advance_13 : decode cX5_advance 13 = .ok (.invokevirtual 75, 3) := by decide +kernel
theorem dX5_advance_16 : decode cX5_advance 16 = .ok (.bipush 32, 2) := by decide +kernel
theorem dX5_advance_18 : decode cX5_advance 18 = .ok (.if_icmp .ne 16, 3) := by decide +kernel
theorem dX5_advance_21 : decode cX5_advance 21 = .ok (.aload_n 0, 1) := by decide +kernel
theorem dX5_advance_22 : decode cX5_advance 22 = .ok (.dup, 1) := by decide +kernel
theorem dX5_advance_23 : decode cX5_advance 23 = .ok (.getfield 73, 3) := by decide +kernel
theorem dX5_advance_26 : decode cX5_advance 26 = .ok (.iconst 1, 1) := by decide +kernel
theorem dX5_advance_27 : decode cX5_advance 27 = .ok (.iadd, 1) := by decide +kernel
theorem dX5_advance_28 : decode cX5_advance 28 = .ok (.putfield 73, 3) := by decide +kernel
theorem dX5_advance_31 : decode cX5_advance 31 = .ok (.goto (-23), 3) := by decide +kernel
theorem dX5_advance_34 : decode cX5_advance 34 = .ok (.aload_n 0, 1) := by decide +kernel
theorem dX5_advance_35 : decode cX5_advance 35 = .ok (.aload_n 0, 1) := by decide +kernel
theorem dX5_advance_36 : decode cX5_advance 36 = .ok (.getfield 73, 3) := by decide +kernel
theorem dX5_advance_39 : decode cX5_advance 39 = .ok (.putfield 70, 3) := by decide +kernel
theorem dX5_advance_42 : decode cX5_advance 42 = .ok (.aload_n 0, 1) := by decide +kernel
theorem dX5_advance_43 : decode cX5_advance 43 = .ok (.aload_n 0, 1) := by decide +kernel
theorem dX5_advance_44 : decode cX5_advance 44 = .ok (.getfield 73, 3) := by decide +kernel
theorem dX5_advance_47 : decode cX5_advance 47 = .ok (.invokevirtual 75, 3) := by decide +kernel
theorem dX5_advance_50 : decode cX5_advance 50 = .ok (.istore_n 1, 1) := by decide +kernel
theorem dX5_advance_51 : decode cX5_advance 51 = .ok (.aload_n 0, 1) := by decide +kernel
theorem dX5_advance_52 : decode cX5_advance 52 = .ok (.iload_n 1, 1) := by decide +kernel
theorem dX5_advance_53 : decode cX5_advance 53 = .ok (.ifCond .ge 7, 3) := by decide +kernel
theorem dX5_advance_56 : decode cX5_advance 56 = .ok (.iconst 0, 1) := by decide +kernel
theorem dX5_advance_57 : decode cX5_advance 57 = .ok (.goto 26, 3) := by decide +kernel
theorem dX5_advance_60 : decode cX5_advance 60 = .ok (.iload_n 1, 1) := by decide +kernel
theorem dX5_advance_61 : decode cX5_advance 61 = .ok (.invokestatic 79, 3) := by decide +kernel
theorem dX5_advance_64 : decode cX5_advance 64 = .ok (.ifCond .eq 7, 3) := by decide +kernel
theorem dX5_advance_67 : decode cX5_advance 67 = .ok (.iconst 1, 1) := by decide +kernel
theorem dX5_advance_68 : decode cX5_advance 68 = .ok (.goto 15, 3) := by decide +kernel
theorem dX5_advance_71 : decode cX5_advance 71 = .ok (.iload_n 1, 1) := by decide +kernel
theorem dX5_advance_72 : decode cX5_advance 72 = .ok (.invokestatic 83, 3) := by decide +kernel
theorem dX5_advance_75 : decode cX5_advance 75 = .ok (.ifCond .eq 7, 3) := by decide +kernel
theorem dX5_advance_78 : decode cX5_advance 78 = .ok (.iconst 2, 1) := by decide +kernel
theorem dX5_advance_79 : decode cX5_advance 79 = .ok (.goto 4, 3) := by decide +kernel
theorem dX5_advance_82 : decode cX5_advance 82 = .ok (.iconst 3, 1) := by decide +kernel
theorem dX5_advance_83 : decode cX5_advance 83 = .ok (.putfield 86, 3) := by decide +kernel
theorem dX5_advance_86 : decode cX5_advance 86 = .ok (.aload_n 0, 1) := by decide +kernel
theorem dX5_advance_87 : decode cX5_advance 87 = .ok (.lconst 0, 1) := by decide +kernel
theorem dX5_advance_88 : decode cX5_advance 88 = .ok (.putfield 89, 3) := by decide +kernel
theorem dX5_advance_91 : decode cX5_advance 91 = .ok (.aload_n 0, 1) := by decide +kernel
theorem dX5_advance_92 : decode cX5_advance 92 = .ok (.aload_n 0, 1) := by decide +kernel
theorem dX5_advance_93 : decode cX5_advance 93 = .ok (.getfield 86, 3) := by decide +kernel
theorem dX5_advance_96 : decode cX5_advance 96 = .ok (.iconst 2, 1) := by decide +kernel
theorem dX5_advance_97 : decode cX5_advance 97 = .ok (.if_icmp .ne 7, 3) := by decide +kernel
theorem dX5_advance_100 : decode cX5_advance 100 = .ok (.iconst 0, 1) := by decide +kernel
theorem dX5_advance_101 : decode cX5_advance 101 = .ok (.goto 4, 3) := by decide +kernel
theorem dX5_advance_104 : decode cX5_advance 104 = .ok (.iload_n 1, 1) := by decide +kernel
theorem dX5_advance_105 : decode cX5_advance 105 = .ok (.putfield 93, 3) := by decide +kernel
theorem dX5_advance_108 : decode cX5_advance 108 = .ok (.aload_n 0, 1) := by decide +kernel
theorem dX5_advance_109 : decode cX5_advance 109 = .ok (.getfield 86, 3) := by decide +kernel
theorem dX5_advance_112 : decode cX5_advance 112 = .ok (.iconst 3, 1) := by decide +kernel
theorem dX5_advance_113 : decode cX5_advance 113 = .ok (.if_icmp .ne 13, 3) := by decide +kernel
theorem dX5_advance_116 : decode cX5_advance 116 = .ok (.aload_n 0, 1) := by decide +kernel
theorem dX5_advance_117 : decode cX5_advance 117 = .ok (.dup, 1) := by decide +kernel
theorem dX5_advance_118 : decode cX5_advance 118 = .ok (.getfield 70, 3) := by decide +kernel
theorem dX5_advance_121 : decode cX5_advance 121 = .ok (.iconst 1, 1) := by decide +kernel
theorem dX5_advance_122 : decode cX5_advance 122 = .ok (.iadd, 1) := by decide +kernel
theorem dX5_advance_123 : decode cX5_advance 123 = .ok (.putfield 70, 3) := by decide +kernel
theorem dX5_advance_126 : decode cX5_advance 126 = .ok (.aload_n 0, 1) := by decide +kernel
theorem dX5_advance_127 : decode cX5_advance 127 = .ok (.getfield 86, 3) := by decide +kernel
theorem dX5_advance_130 : decode cX5_advance 130 = .ok (.iconst 1, 1) := by decide +kernel
theorem dX5_advance_131 : decode cX5_advance 131 = .ok (.if_icmp .ne 76, 3) := by decide +kernel
theorem dX5_advance_134 : decode cX5_advance 134 = .ok (.aload_n 0, 1) := by decide +kernel
theorem dX5_advance_135 : decode cX5_advance 135 = .ok (.aload_n 0, 1) := by decide +kernel
theorem dX5_advance_136 : decode cX5_advance 136 = .ok (.getfield 70, 3) := by decide +kernel
theorem dX5_advance_139 : decode cX5_advance 139 = .ok (.invokevirtual 75, 3) := by decide +kernel
theorem dX5_advance_142 : decode cX5_advance 142 = .ok (.invokestatic 79, 3) := by decide +kernel
theorem dX5_advance_145 : decode cX5_advance 145 = .ok (.ifCond .eq 62, 3) := by decide +kernel
theorem dX5_advance_148 : decode cX5_advance 148 = .ok (.aload_n 0, 1) := by decide +kernel
theorem dX5_advance_149 : decode cX5_advance 149 = .ok (.aload_n 0, 1) := by decide +kernel
theorem dX5_advance_150 : decode cX5_advance 150 = .ok (.getfield 70, 3) := by decide +kernel
theorem dX5_advance_153 : decode cX5_advance 153 = .ok (.aload_n 0, 1) := by decide +kernel
theorem dX5_advance_154 : decode cX5_advance 154 = .ok (.getfield 73, 3) := by decide +kernel
theorem dX5_advance_157 : decode cX5_advance 157 = .ok (.isub, 1) := by decide +kernel
theorem dX5_advance_158 : decode cX5_advance 158 = .ok (.bipush 9, 2) := by decide +kernel
theorem dX5_advance_160 : decode cX5_advance 160 = .ok (.if_icmp .ge 28, 3) := by decide +kernel
theorem dX5_advance_163 : decode cX5_advance 163 = .ok (.ldc2_w 96, 3) := by decide +kernel
theorem dX5_advance_166 : decode cX5_advance 166 = .ok (.aload_n 0, 1) := by decide +kernel
theorem dX5_advance_167 : decode cX5_advance 167 = .ok (.getfield 89, 3) := by decide +kernel
theorem dX5_advance_170 : decode cX5_advance 170 = .ok (.lmul, 1) := by decide +kernel
theorem dX5_advance_171 : decode cX5_advance 171 = .ok (.aload_n 0, 1) := by decide +kernel
theorem dX5_advance_172 : decode cX5_advance 172 = .ok (.aload_n 0, 1) := by decide +kernel
theorem dX5_advance_173 : decode cX5_advance 173 = .ok (.getfield 70, 3) := by decide +kernel
theorem dX5_advance_176 : decode cX5_advance 176 = .ok (.invokevirtual 75, 3) := by decide +kernel
theorem dX5_advance_179 : decode cX5_advance 179 = .ok (.i2l, 1) := by decide +kernel
theorem dX5_advance_180 : decode cX5_advance 180 = .ok (.ladd, 1) := by decide +kernel
theorem dX5_advance_181 : decode cX5_advance 181 = .ok (.ldc2_w 98, 3) := by decide +kernel
theorem dX5_advance_184 : decode cX5_advance 184 = .ok (.lsub, 1) := by decide +kernel
theorem dX5_advance_185 : decode cX5_advance 185 = .ok (.goto 6, 3) := by decide +kernel
theorem dX5_advance_188 : decode cX5_advance 188 = .ok (.ldc2_w 100, 3) := by decide +kernel
theorem dX5_advance_191 : decode cX5_advance 191 = .ok (.putfield 89, 3) := by decide +kernel
theorem dX5_advance_194 : decode cX5_advance 194 = .ok (.aload_n 0, 1) := by decide +kernel
theorem dX5_advance_195 : decode cX5_advance 195 = .ok (.dup, 1) := by decide +kernel
theorem dX5_advance_196 : decode cX5_advance 196 = .ok (.getfield 70, 3) := by decide +kernel
theorem dX5_advance_199 : decode cX5_advance 199 = .ok (.iconst 1, 1) := by decide +kernel
theorem dX5_advance_200 : decode cX5_advance 200 = .ok (.iadd, 1) := by decide +kernel
theorem dX5_advance_201 : decode cX5_advance 201 = .ok (.putfield 70, 3) := by decide +kernel
theorem dX5_advance_204 : decode cX5_advance 204 = .ok (.goto (-78), 3) := by decide +kernel
theorem dX5_advance_207 : decode cX5_advance 207 = .ok (.aload_n 0, 1) := by decide +kernel
theorem dX5_advance_208 : decode cX5_advance 208 = .ok (.getfield 86, 3) := by decide +kernel
theorem dX5_advance_211 : decode cX5_advance 211 = .ok (.iconst 2, 1) := by decide +kernel
theorem dX5_advance_212 : decode cX5_advance 212 = .ok (.if_icmp .ne 70, 3) := by decide +kernel
theorem dX5_advance_215 : decode cX5_advance 215 = .ok (.aload_n 0, 1) := by decide +kernel
theorem dX5_advance_216 : decode cX5_advance 216 = .ok (.aload_n 0, 1) := by decide +kernel
theorem dX5_advance_217 : decode cX5_advance 217 = .ok (.getfield 70, 3) := by decide +kernel
theorem dX5_advance_220 : decode cX5_advance 220 = .ok (.invokevirtual 75, 3) := by decide +kernel
theorem dX5_advance_223 : decode cX5_advance 223 = .ok (.invokestatic 83, 3) := by decide +kernel
theorem dX5_advance_226 : decode cX5_advance 226 = .ok (.ifCond .eq 56, 3) := by decide +kernel
theorem dX5_advance_229 : decode cX5_advance 229 = .ok (.aload_n 0, 1) := by decide +kernel
theorem dX5_advance_230 : decode cX5_advance 230 = .ok (.aload_n 0, 1) := by decide +kernel
theorem dX5_advance_231 : decode cX5_advance 231 = .ok (.getfield 70, 3) := by decide +kernel
theorem dX5_advance_234 : decode cX5_advance 234 = .ok (.aload_n 0, 1) := by decide +kernel
theorem dX5_advance_235 : decode cX5_advance 235 = .ok (.getfield 73, 3) := by decide +kernel
theorem dX5_advance_238 : decode cX5_advance 238 = .ok (.isub, 1) := by decide +kernel
theorem dX5_advance_239 : decode cX5_advance 239 = .ok (.iconst 3, 1) := by decide +kernel
theorem dX5_advance_240 : decode cX5_advance 240 = .ok (.if_icmp .ge 25, 3) := by decide +kernel
theorem dX5_advance_243 : decode cX5_advance 243 = .ok (.bipush 10, 2) := by decide +kernel
theorem dX5_advance_245 : decode cX5_advance 245 = .ok (.aload_n 0, 1) := by decide +kernel
theorem dX5_advance_246 : decode cX5_advance 246 = .ok (.getfield 93, 3) := by decide +kernel
theorem dX5_advance_249 : decode cX5_advance 249 = .ok (.imul, 1) := by decide +kernel
theorem dX5_advance_250 : decode cX5_advance 250 = .ok (.aload_n 0, 1) := by decide +kernel
theorem dX5_advance_251 : decode cX5_advance 251 = .ok (.aload_n 0, 1) := by decide +kernel
theorem dX5_advance_252 : decode cX5_advance 252 = .ok (.getfield 70, 3) := by decide +kernel
theorem dX5_advance_255 : decode cX5_advance 255 = .ok (.invokevirtual 75, 3) := by decide +kernel
theorem dX5_advance_258 : decode cX5_advance 258 = .ok (.iadd, 1) := by decide +kernel
theorem dX5_advance_259 : decode cX5_advance 259 = .ok (.bipush 48, 2) := by decide +kernel
theorem dX5_advance_261 : decode cX5_advance 261 = .ok (.isub, 1) := by decide +kernel
theorem dX5_advance_262 : decode cX5_advance 262 = .ok (.goto 4, 3) := by decide +kernel
theorem dX5_advance_265 : decode cX5_advance 265 = .ok (.iconst (-1), 1) := by decide +kernel
theorem dX5_advance_266 : decode cX5_advance 266 = .ok (.putfield 93, 3) := by decide +kernel
theorem dX5_advance_269 : decode cX5_advance 269 = .ok (.aload_n 0, 1) := by decide +kernel
theorem dX5_advance_270 : decode cX5_advance 270 = .ok (.dup, 1) := by decide +kernel
theorem dX5_advance_271 : decode cX5_advance 271 = .ok (.getfield 70, 3) := by decide +kernel
theorem dX5_advance_274 : decode cX5_advance 274 = .ok (.iconst 1, 1) := by decide +kernel
theorem dX5_advance_275 : decode cX5_advance 275 = .ok (.iadd, 1) := by decide +kernel
theorem dX5_advance_276 : decode cX5_advance 276 = .ok (.putfield 70, 3) := by decide +kernel
theorem dX5_advance_279 : decode cX5_advance 279 = .ok (.goto (-72), 3) := by decide +kernel
theorem dX5_advance_282 : decode cX5_advance 282 = .ok (.return_, 1) := by decide +kernel
theorem dX5_isWord_0 : decode cX5_isWord 0 = .ok (.aload_n 0, 1) := by decide +kernel
theorem dX5_isWord_1 : decode cX5_isWord 1 = .ok (.getfield 86, 3) := by decide +kernel
theorem dX5_isWord_4 : decode cX5_isWord 4 = .ok (.iconst 1, 1) := by decide +kernel
theorem dX5_isWord_5 : decode cX5_isWord 5 = .ok (.if_icmp .ne 16, 3) := by decide +kernel
theorem dX5_isWord_8 : decode cX5_isWord 8 = .ok (.aload_n 0, 1) := by decide +kernel
theorem dX5_isWord_9 : decode cX5_isWord 9 = .ok (.getfield 89, 3) := by decide +kernel
theorem dX5_isWord_12 : decode cX5_isWord 12 = .ok (.lload_n 1, 1) := by decide +kernel
theorem dX5_isWord_13 : decode cX5_isWord 13 = .ok (.lcmp, 1) := by decide +kernel
theorem dX5_isWord_14 : decode cX5_isWord 14 = .ok (.ifCond .ne 7, 3) := by decide +kernel
theorem dX5_isWord_17 : decode cX5_isWord 17 = .ok (.iconst 1, 1) := by decide +kernel
theorem dX5_isWord_18 : decode cX5_isWord 18 = .ok (.goto 4, 3) := by decide +kernel
theorem dX5_isWord_21 : decode cX5_isWord 21 = .ok (.iconst 0, 1) := by decide +kernel
theorem dX5_isWord_22 : decode cX5_isWord 22 = .ok (.ireturn, 1) := by decide +kernel
theorem dX5_isMark_0 : decode cX5_isMark 0 = .ok (.aload_n 0, 1) := by decide +kernel
theorem dX5_isMark_1 : decode cX5_isMark 1 = .ok (.getfield 86, 3) := by decide +kernel
theorem dX5_isMark_4 : decode cX5_isMark 4 = .ok (.iconst 3, 1) := by decide +kernel
theorem dX5_isMark_5 : decode cX5_isMark 5 = .ok (.if_icmp .ne 15, 3) := by decide +kernel
theorem dX5_isMark_8 : decode cX5_isMark 8 = .ok (.aload_n 0, 1) := by decide +kernel
theorem dX5_isMark_9 : decode cX5_isMark 9 = .ok (.getfield 93, 3) := by decide +kernel
theorem dX5_isMark_12 : decode cX5_isMark 12 = .ok (.iload_n 1, 1) := by decide +kernel
theorem dX5_isMark_13 : decode cX5_isMark 13 = .ok (.if_icmp .ne 7, 3) := by decide +kernel
theorem dX5_isMark_16 : decode cX5_isMark 16 = .ok (.iconst 1, 1) := by decide +kernel
theorem dX5_isMark_17 : decode cX5_isMark 17 = .ok (.goto 4, 3) := by decide +kernel
theorem dX5_isMark_20 : decode cX5_isMark 20 = .ok (.iconst 0, 1) := by decide +kernel
theorem dX5_isMark_21 : decode cX5_isMark 21 = .ok (.ireturn, 1) := by decide +kernel
set_option maxRecDepth 20000 in
theorem ggX5_kindHere_X5_isWord : GoodIn wsX5_kindHere wsX5_isWord := goodIn_r _ [11, 12, 13, 14, 15, 16, 17, 18, 19, 20, 21, 22, 23, 24, 25, 26, 27, 28, 29, 30, 31, 32, 33, 34, 35, 36, 37, 38, 39, 40, 41, 42, 43] (by decide +kernel) (by decide +kernel)
set_option maxRecDepth 20000 in
theorem gX5_kindHere_X5_isWord : GoodIn wsX5_kindHere (wsV RX5 104 RX5 yX5_isWord wsX5_isWord) := goodIn_app (goodIn_of _ (by decide +kernel)) ggX5_kindHere_X5_isWord
theorem dX5_kindHere_0 : decode cX5_kindHere 0 = .ok (.aload_n 0, 1) := by decide +kernel
theorem dX5_kindHere_1 : decode cX5_kindHere 1 = .ok (.ldc2_w 102, 3) := by decide +kernel
theorem dX5_kindHere_4 : decode cX5_kindHere 4 = .ok (.invokevirtual 104, 3) := by decide +kernel
theorem dX5_kindHere_7 : decode cX5_kindHere 7 = .ok (.ifCond .eq 7, 3) := by decide +kernel
theorem dX5_kindHere_10 : decode cX5_kindHere 10 = .ok (.iconst 0, 1) := by decide +kernel
theorem dX5_kindHere_11 : decode cX5_kindHere 11 = .ok (.goto 74, 3) := by decide +kernel
theorem dX5_kindHere_14 : decode cX5_kindHere 14 = .ok (.aload_n 0, 1) := by decide +kernel
theorem dX5_kindHere_15 : decode cX5_kindHere 15 = .ok (.ldc2_w 108, 3) := by decide +kernel
theorem dX5_kindHere_18 : decode cX5_kindHere 18 = .ok (.invokevirtual 104, 3) := by decide +kernel
theorem dX5_kindHere_21 : decode cX5_kindHere 21 = .ok (.ifCond .eq 7, 3) := by decide +kernel
theorem dX5_kindHere_24 : decode cX5_kindHere 24 = .ok (.iconst 1, 1) := by decide +kernel
theorem dX5_kindHere_25 : decode cX5_kindHere 25 = .ok (.goto 60, 3) := by decide +kernel
theorem dX5_kindHere_28 : decode cX5_kindHere 28 = .ok (.aload_n 0, 1) := by decide +kernel
theorem dX5_kindHere_29 : decode cX5_kindHere 29 = .ok (.ldc2_w 110, 3) := by decide +kernel
theorem dX5_kindHere_32 : decode cX5_kindHere 32 = .ok (.invokevirtual 104, 3) := by decide +kernel
theorem dX5_kindHere_35 : decode cX5_kindHere 35 = .ok (.ifCond .eq 7, 3) := by decide +kernel
theorem dX5_kindHere_38 : decode cX5_kindHere 38 = .ok (.iconst 2, 1) := by decide +kernel
theorem dX5_kindHere_39 : decode cX5_kindHere 39 = .ok (.goto 46, 3) := by decide +kernel
theorem dX5_kindHere_42 : decode cX5_kindHere 42 = .ok (.aload_n 0, 1) := by decide +kernel
theorem dX5_kindHere_43 : decode cX5_kindHere 43 = .ok (.ldc2_w 112, 3) := by decide +kernel
theorem dX5_kindHere_46 : decode cX5_kindHere 46 = .ok (.invokevirtual 104, 3) := by decide +kernel
theorem dX5_kindHere_49 : decode cX5_kindHere 49 = .ok (.ifCond .eq 7, 3) := by decide +kernel
theorem dX5_kindHere_52 : decode cX5_kindHere 52 = .ok (.iconst 3, 1) := by decide +kernel
theorem dX5_kindHere_53 : decode cX5_kindHere 53 = .ok (.goto 32, 3) := by decide +kernel
theorem dX5_kindHere_56 : decode cX5_kindHere 56 = .ok (.aload_n 0, 1) := by decide +kernel
theorem dX5_kindHere_57 : decode cX5_kindHere 57 = .ok (.ldc2_w 114, 3) := by decide +kernel
theorem dX5_kindHere_60 : decode cX5_kindHere 60 = .ok (.invokevirtual 104, 3) := by decide +kernel
theorem dX5_kindHere_63 : decode cX5_kindHere 63 = .ok (.ifCond .eq 7, 3) := by decide +kernel
theorem dX5_kindHere_66 : decode cX5_kindHere 66 = .ok (.iconst 4, 1) := by decide +kernel
theorem dX5_kindHere_67 : decode cX5_kindHere 67 = .ok (.goto 18, 3) := by decide +kernel
theorem dX5_kindHere_70 : decode cX5_kindHere 70 = .ok (.aload_n 0, 1) := by decide +kernel
theorem dX5_kindHere_71 : decode cX5_kindHere 71 = .ok (.ldc2_w 116, 3) := by decide +kernel
theorem dX5_kindHere_74 : decode cX5_kindHere 74 = .ok (.invokevirtual 104, 3) := by decide +kernel
theorem dX5_kindHere_77 : decode cX5_kindHere 77 = .ok (.ifCond .eq 7, 3) := by decide +kernel
theorem dX5_kindHere_80 : decode cX5_kindHere 80 = .ok (.iconst 5, 1) := by decide +kernel
theorem dX5_kindHere_81 : decode cX5_kindHere 81 = .ok (.goto 4, 3) := by decide +kernel
theorem dX5_kindHere_84 : decode cX5_kindHere 84 = .ok (.iconst (-1), 1) := by decide +kernel
theorem dX5_kindHere_85 : decode cX5_kindHere 85 = .ok (.ireturn, 1) := by decide +kernel
set_option maxRecDepth 20000 in
theorem ggX5_lawHere_X5_isWord : GoodIn wsX5_lawHere wsX5_isWord := goodIn_r _ [9, 10, 11, 12, 13, 14, 15, 16, 17, 18, 19, 20, 21, 22, 23, 24, 25, 26, 27, 28, 29, 30, 31, 32, 33, 34, 35, 36, 37, 38, 39, 40, 41] (by decide +kernel) (by decide +kernel)
set_option maxRecDepth 20000 in
theorem gX5_lawHere_X5_isWord : GoodIn wsX5_lawHere (wsV RX5 104 RX5 yX5_isWord wsX5_isWord) := goodIn_app (goodIn_of _ (by decide +kernel)) ggX5_lawHere_X5_isWord
theorem dX5_lawHere_0 : decode cX5_lawHere 0 = .ok (.aload_n 0, 1) := by decide +kernel
theorem dX5_lawHere_1 : decode cX5_lawHere 1 = .ok (.ldc2_w 118, 3) := by decide +kernel
theorem dX5_lawHere_4 : decode cX5_lawHere 4 = .ok (.invokevirtual 104, 3) := by decide +kernel
theorem dX5_lawHere_7 : decode cX5_lawHere 7 = .ok (.ifCond .eq 7, 3) := by decide +kernel
theorem dX5_lawHere_10 : decode cX5_lawHere 10 = .ok (.iconst 0, 1) := by decide +kernel
theorem dX5_lawHere_11 : decode cX5_lawHere 11 = .ok (.goto 46, 3) := by decide +kernel
theorem dX5_lawHere_14 : decode cX5_lawHere 14 = .ok (.aload_n 0, 1) := by decide +kernel
theorem dX5_lawHere_15 : decode cX5_lawHere 15 = .ok (.ldc2_w 120, 3) := by decide +kernel
theorem dX5_lawHere_18 : decode cX5_lawHere 18 = .ok (.invokevirtual 104, 3) := by decide +kernel
theorem dX5_lawHere_21 : decode cX5_lawHere 21 = .ok (.ifCond .eq 7, 3) := by decide +kernel
theorem dX5_lawHere_24 : decode cX5_lawHere 24 = .ok (.iconst 1, 1) := by decide +kernel
theorem dX5_lawHere_25 : decode cX5_lawHere 25 = .ok (.goto 32, 3) := by decide +kernel
theorem dX5_lawHere_28 : decode cX5_lawHere 28 = .ok (.aload_n 0, 1) := by decide +kernel
theorem dX5_lawHere_29 : decode cX5_lawHere 29 = .ok (.ldc2_w 122, 3) := by decide +kernel
theorem dX5_lawHere_32 : decode cX5_lawHere 32 = .ok (.invokevirtual 104, 3) := by decide +kernel
theorem dX5_lawHere_35 : decode cX5_lawHere 35 = .ok (.ifCond .eq 7, 3) := by decide +kernel
theorem dX5_lawHere_38 : decode cX5_lawHere 38 = .ok (.iconst 2, 1) := by decide +kernel
theorem dX5_lawHere_39 : decode cX5_lawHere 39 = .ok (.goto 18, 3) := by decide +kernel
theorem dX5_lawHere_42 : decode cX5_lawHere 42 = .ok (.aload_n 0, 1) := by decide +kernel
theorem dX5_lawHere_43 : decode cX5_lawHere 43 = .ok (.ldc2_w 124, 3) := by decide +kernel
theorem dX5_lawHere_46 : decode cX5_lawHere 46 = .ok (.invokevirtual 104, 3) := by decide +kernel
theorem dX5_lawHere_49 : decode cX5_lawHere 49 = .ok (.ifCond .eq 7, 3) := by decide +kernel
theorem dX5_lawHere_52 : decode cX5_lawHere 52 = .ok (.iconst 3, 1) := by decide +kernel
theorem dX5_lawHere_53 : decode cX5_lawHere 53 = .ok (.goto 4, 3) := by decide +kernel
theorem dX5_lawHere_56 : decode cX5_lawHere 56 = .ok (.iconst (-1), 1) := by decide +kernel
theorem dX5_lawHere_57 : decode cX5_lawHere 57 = .ok (.ireturn, 1) := by decide +kernel
set_option maxRecDepth 20000 in
theorem ggX5_groundHere_X5_isWord : GoodIn wsX5_groundHere wsX5_isWord := goodIn_r _ [8, 9, 10, 11, 12, 13, 14, 15, 16, 17, 18, 19, 20, 21, 22, 23, 24, 25, 26, 27, 28, 29, 30, 31, 32, 33, 34, 35, 36, 37, 38, 39, 40] (by decide +kernel) (by decide +kernel)
set_option maxRecDepth 20000 in
theorem gX5_groundHere_X5_isWord : GoodIn wsX5_groundHere (wsV RX5 104 RX5 yX5_isWord wsX5_isWord) := goodIn_app (goodIn_of _ (by decide +kernel)) ggX5_groundHere_X5_isWord
theorem dX5_groundHere_0 : decode cX5_groundHere 0 = .ok (.aload_n 0, 1) := by decide +kernel
theorem dX5_groundHere_1 : decode cX5_groundHere 1 = .ok (.ldc2_w 126, 3) := by decide +kernel
theorem dX5_groundHere_4 : decode cX5_groundHere 4 = .ok (.invokevirtual 104, 3) := by decide +kernel
theorem dX5_groundHere_7 : decode cX5_groundHere 7 = .ok (.ifCond .eq 7, 3) := by decide +kernel
theorem dX5_groundHere_10 : decode cX5_groundHere 10 = .ok (.iconst 0, 1) := by decide +kernel
theorem dX5_groundHere_11 : decode cX5_groundHere 11 = .ok (.goto 32, 3) := by decide +kernel
theorem dX5_groundHere_14 : decode cX5_groundHere 14 = .ok (.aload_n 0, 1) := by decide +kernel
theorem dX5_groundHere_15 : decode cX5_groundHere 15 = .ok (.ldc2_w 128, 3) := by decide +kernel
theorem dX5_groundHere_18 : decode cX5_groundHere 18 = .ok (.invokevirtual 104, 3) := by decide +kernel
theorem dX5_groundHere_21 : decode cX5_groundHere 21 = .ok (.ifCond .eq 7, 3) := by decide +kernel
theorem dX5_groundHere_24 : decode cX5_groundHere 24 = .ok (.iconst 1, 1) := by decide +kernel
theorem dX5_groundHere_25 : decode cX5_groundHere 25 = .ok (.goto 18, 3) := by decide +kernel
theorem dX5_groundHere_28 : decode cX5_groundHere 28 = .ok (.aload_n 0, 1) := by decide +kernel
theorem dX5_groundHere_29 : decode cX5_groundHere 29 = .ok (.ldc2_w 130, 3) := by decide +kernel
theorem dX5_groundHere_32 : decode cX5_groundHere 32 = .ok (.invokevirtual 104, 3) := by decide +kernel
theorem dX5_groundHere_35 : decode cX5_groundHere 35 = .ok (.ifCond .eq 7, 3) := by decide +kernel
theorem dX5_groundHere_38 : decode cX5_groundHere 38 = .ok (.iconst 2, 1) := by decide +kernel
theorem dX5_groundHere_39 : decode cX5_groundHere 39 = .ok (.goto 4, 3) := by decide +kernel
theorem dX5_groundHere_42 : decode cX5_groundHere 42 = .ok (.iconst (-1), 1) := by decide +kernel
theorem dX5_groundHere_43 : decode cX5_groundHere 43 = .ok (.ireturn, 1) := by decide +kernel
set_option maxRecDepth 20000 in
theorem ggX5_wantNumber_X5_in : GoodIn wsX5_wantNumber wsX5_in := goodIn_r _ [7] (by decide +kernel) (by decide +kernel)
set_option maxRecDepth 20000 in
theorem gX5_wantNumber_X5_in : GoodIn wsX5_wantNumber (va_wsS RX5 60 yX5_in wsX5_in) := goodIn_app (goodIn_of _ (by decide +kernel)) ggX5_wantNumber_X5_in
set_option maxRecDepth 20000 in
theorem ggX5_wantNumber_X5_advance : GoodIn wsX5_wantNumber wsX5_advance := goodIn_r _ [11, 12, 13, 3, 14, 1, 15, 16, 17, 18, 19, 20, 6, 21, 22, 23, 24, 25, 26, 4, 5, 7, 27, 28, 29, 30, 31, 32, 33, 34, 35, 36, 37, 38, 39, 40, 41, 42, 43, 44, 45, 46, 47, 48, 49, 50, 51, 52, 53, 54, 55, 56, 57, 58, 59] (by decide +kernel) (by decide +kernel)
set_option maxRecDepth 20000 in
theorem gX5_wantNumber_X5_advance : GoodIn wsX5_wantNumber (wsV RX5 136 RX5 yX5_advance wsX5_advance) := goodIn_app (goodIn_of _ (by decide +kernel)) ggX5_wantNumber_X5_advance
theorem dX5_wantNumber_0 : decode cX5_wantNumber 0 = .ok (.aload_n 0, 1) := by decide +kernel
theorem dX5_wantNumber_1 : decode cX5_wantNumber 1 = .ok (.getfield 93, 3) := by decide +kernel
theorem dX5_wantNumber_4 : decode cX5_wantNumber 4 = .ok (.istore_n 3, 1) := by decide +kernel
theorem dX5_wantNumber_5 : decode cX5_wantNumber 5 = .ok (.aload_n 0, 1) := by decide +kernel
theorem dX5_wantNumber_6 : decode cX5_wantNumber 6 = .ok (.aload_n 0, 1) := by decide +kernel
theorem dX5_wantNumber_7 : decode cX5_wantNumber 7 = .ok (.getfield 132, 3) := by decide +kernel
theorem dX5_wantNumber_10 : decode cX5_wantNumber 10 = .ok (.ifCond .eq 24, 3) := by decide +kernel
theorem dX5_wantNumber_13 : decode cX5_wantNumber 13 = .ok (.aload_n 0, 1) := by decide +kernel
theorem dX5_wantNumber_14 : decode cX5_wantNumber 14 = .ok (.getfield 86, 3) := by decide +kernel
theorem dX5_wantNumber_17 : decode cX5_wantNumber 17 = .ok (.iconst 2, 1) := by decide +kernel
theorem dX5_wantNumber_18 : decode cX5_wantNumber 18 = .ok (.if_icmp .ne 16, 3) := by decide +kernel
theorem dX5_wantNumber_21 : decode cX5_wantNumber 21 = .ok (.iload_n 3, 1) := by decide +kernel
theorem dX5_wantNumber_22 : decode cX5_wantNumber 22 = .ok (.iload_n 1, 1) := by decide +kernel
theorem dX5_wantNumber_23 : decode cX5_wantNumber 23 = .ok (.iload_n 2, 1) := by decide +kernel
theorem dX5_wantNumber_24 : decode cX5_wantNumber 24 = .ok (.invokestatic 60, 3) := by decide +kernel
theorem dX5_wantNumber_27 : decode cX5_wantNumber 27 = .ok (.ifCond .eq 7, 3) := by decide +kernel
theorem dX5_wantNumber_30 : decode cX5_wantNumber 30 = .ok (.iconst 1, 1) := by decide +kernel
theorem dX5_wantNumber_31 : decode cX5_wantNumber 31 = .ok (.goto 4, 3) := by decide +kernel
theorem dX5_wantNumber_34 : decode cX5_wantNumber 34 = .ok (.iconst 0, 1) := by decide +kernel
theorem dX5_wantNumber_35 : decode cX5_wantNumber 35 = .ok (.putfield 132, 3) := by decide +kernel
theorem dX5_wantNumber_38 : decode cX5_wantNumber 38 = .ok (.aload_n 0, 1) := by decide +kernel
theorem dX5_wantNumber_39 : decode cX5_wantNumber 39 = .ok (.getfield 132, 3) := by decide +kernel
theorem dX5_wantNumber_42 : decode cX5_wantNumber 42 = .ok (.ifCond .eq 7, 3) := by decide +kernel
theorem dX5_wantNumber_45 : decode cX5_wantNumber 45 = .ok (.aload_n 0, 1) := by decide +kernel
theorem dX5_wantNumber_46 : decode cX5_wantNumber 46 = .ok (.invokevirtual 136, 3) := by decide +kernel
theorem dX5_wantNumber_49 : decode cX5_wantNumber 49 = .ok (.iload_n 3, 1) := by decide +kernel
theorem dX5_wantNumber_50 : decode cX5_wantNumber 50 = .ok (.ireturn, 1) := by decide +kernel
set_option maxRecDepth 20000 in
theorem ggX5_wantEnd_X5_isMark : GoodIn wsX5_wantEnd wsX5_isMark := goodIn_r _ [6, 7, 8, 34, 35, 36, 37, 38, 39, 40, 41, 42, 43, 44, 45, 46, 47, 48, 49, 50, 51, 52, 53, 54, 55, 56, 57, 58, 59, 60, 61, 62, 63] (by decide +kernel) (by decide +kernel)
set_option maxRecDepth 20000 in
theorem gX5_wantEnd_X5_isMark : GoodIn wsX5_wantEnd (wsV RX5 139 RX5 yX5_isMark wsX5_isMark) := goodIn_app (goodIn_of _ (by decide +kernel)) ggX5_wantEnd_X5_isMark
set_option maxRecDepth 20000 in
theorem ggX5_wantEnd_X5_advance : GoodIn wsX5_wantEnd wsX5_advance := goodIn_r _ [12, 13, 14, 7, 15, 8, 16, 17, 18, 19, 20, 21, 5, 22, 23, 24, 25, 26, 27, 28, 29, 30, 31, 32, 33, 34, 35, 36, 37, 38, 39, 40, 41, 42, 43, 44, 45, 46, 47, 48, 49, 50, 51, 52, 53, 54, 55, 56, 57, 58, 59, 60, 61, 62, 63] (by decide +kernel) (by decide +kernel)
set_option maxRecDepth 20000 in
theorem gX5_wantEnd_X5_advance : GoodIn wsX5_wantEnd (wsV RX5 136 RX5 yX5_advance wsX5_advance) := goodIn_app (goodIn_of _ (by decide +kernel)) ggX5_wantEnd_X5_advance
theorem dX5_wantEnd_0 : decode cX5_wantEnd 0 = .ok (.aload_n 0, 1) := by decide +kernel
theorem dX5_wantEnd_1 : decode cX5_wantEnd 1 = .ok (.aload_n 0, 1) := by decide +kernel
theorem dX5_wantEnd_2 : decode cX5_wantEnd 2 = .ok (.getfield 132, 3) := by decide +kernel
theorem dX5_wantEnd_5 : decode cX5_wantEnd 5 = .ok (.ifCond .eq 16, 3) := by decide +kernel
theorem dX5_wantEnd_8 : decode cX5_wantEnd 8 = .ok (.aload_n 0, 1) := by decide +kernel
theorem dX5_wantEnd_9 : decode cX5_wantEnd 9 = .ok (.bipush 59, 2) := by decide +kernel
theorem dX5_wantEnd_11 : decode cX5_wantEnd 11 = .ok (.invokevirtual 139, 3) := by decide +kernel
theorem dX5_wantEnd_14 : decode cX5_wantEnd 14 = .ok (.ifCond .eq 7, 3) := by decide +kernel
theorem dX5_wantEnd_17 : decode cX5_wantEnd 17 = .ok (.iconst 1, 1) := by decide +kernel
theorem dX5_wantEnd_18 : decode cX5_wantEnd 18 = .ok (.goto 4, 3) := by decide +kernel
theorem dX5_wantEnd_21 : decode cX5_wantEnd 21 = .ok (.iconst 0, 1) := by decide +kernel
theorem dX5_wantEnd_22 : decode cX5_wantEnd 22 = .ok (.putfield 132, 3) := by decide +kernel
theorem dX5_wantEnd_25 : decode cX5_wantEnd 25 = .ok (.aload_n 0, 1) := by decide +kernel
theorem dX5_wantEnd_26 : decode cX5_wantEnd 26 = .ok (.getfield 132, 3) := by decide +kernel
theorem dX5_wantEnd_29 : decode cX5_wantEnd 29 = .ok (.ifCond .eq 7, 3) := by decide +kernel
theorem dX5_wantEnd_32 : decode cX5_wantEnd 32 = .ok (.aload_n 0, 1) := by decide +kernel
theorem dX5_wantEnd_33 : decode cX5_wantEnd 33 = .ok (.invokevirtual 136, 3) := by decide +kernel
theorem dX5_wantEnd_36 : decode cX5_wantEnd 36 = .ok (.return_, 1) := by decide +kernel
set_option maxRecDepth 20000 in
theorem ggX5_mayWant_X5_isWord : GoodIn wsX5_mayWant wsX5_isWord := goodIn_r _ [6, 7, 8, 38, 39, 40, 41, 42, 43, 44, 45, 46, 47, 48, 49, 50, 51, 52, 53, 54, 55, 56, 57, 58, 59, 60, 61, 62, 63, 64, 65, 66, 67] (by decide +kernel) (by decide +kernel)
set_option maxRecDepth 20000 in
theorem gX5_mayWant_X5_isWord : GoodIn wsX5_mayWant (wsV RX5 104 RX5 yX5_isWord wsX5_isWord) := goodIn_app (goodIn_of _ (by decide +kernel)) ggX5_mayWant_X5_isWord
set_option maxRecDepth 20000 in
theorem ggX5_mayWant_X5_advance : GoodIn wsX5_mayWant wsX5_advance := goodIn_r _ [12, 13, 14, 7, 8, 15, 16, 17, 18, 19, 20, 21, 5, 22, 23, 24, 25, 26, 27, 28, 29, 30, 31, 32, 33, 38, 39, 40, 41, 42, 43, 44, 45, 46, 47, 48, 49, 50, 51, 52, 53, 54, 55, 56, 57, 58, 59, 60, 61, 62, 63, 64, 65, 66, 67] (by decide +kernel) (by decide +kernel)
set_option maxRecDepth 20000 in
theorem gX5_mayWant_X5_advance : GoodIn wsX5_mayWant (wsV RX5 136 RX5 yX5_advance wsX5_advance) := goodIn_app (goodIn_of _ (by decide +kernel)) ggX5_mayWant_X5_advance
set_option maxRecDepth 20000 in
theorem ggX5_mayWant_X5_wantNumber : GoodIn wsX5_mayWant wsX5_wantNumber := goodIn_r _ [37, 15, 1, 7, 28, 29, 5, 30, 9, 10, 11, 12, 13, 14, 8, 16, 17, 18, 19, 20, 21, 22, 23, 24, 25, 26, 27, 31, 32, 33, 38, 39, 40, 41, 42, 43, 44, 45, 46, 47, 48, 49, 50, 51, 52, 53, 54, 55, 56, 57, 58, 59, 60, 61, 62, 63, 64, 65, 66, 67] (by decide +kernel) (by decide +kernel)
set_option maxRecDepth 20000 in
theorem gX5_mayWant_X5_wantNumber : GoodIn wsX5_mayWant (wsV RX5 142 RX5 yX5_wantNumber wsX5_wantNumber) := goodIn_app (goodIn_of _ (by decide +kernel)) ggX5_mayWant_X5_wantNumber
theorem dX5_mayWant_0 : decode cX5_mayWant 0 = .ok (.aload_n 0, 1) := by decide +kernel
theorem dX5_mayWant_1 : decode cX5_mayWant 1 = .ok (.getfield 132, 3) := by decide +kernel
theorem dX5_mayWant_4 : decode cX5_mayWant 4 = .ok (.ifCond .eq 11, 3) := by decide +kernel
theorem dX5_mayWant_7 : decode cX5_mayWant 7 = .ok (.aload_n 0, 1) := by decide +kernel
theorem dX5_mayWant_8 : decode cX5_mayWant 8 = .ok (.lload_n 1, 1) := by decide +kernel
theorem dX5_mayWant_9 : decode cX5_mayWant 9 = .ok (.invokevirtual 104, 3) := by decide +kernel
theorem dX5_mayWant_12 : decode cX5_mayWant 12 = .ok (.ifCond .ne 6, 3) := by decide +kernel
theorem dX5_mayWant_15 : decode cX5_mayWant 15 = .ok (.iload 4, 2) := by decide +kernel
theorem dX5_mayWant_17 : decode cX5_mayWant 17 = .ok (.ireturn, 1) := by decide +kernel
theorem dX5_mayWant_18 : decode cX5_mayWant 18 = .ok (.aload_n 0, 1) := by decide +kernel
theorem dX5_mayWant_19 : decode cX5_mayWant 19 = .ok (.invokevirtual 136, 3) := by decide +kernel
theorem dX5_mayWant_22 : decode cX5_mayWant 22 = .ok (.aload_n 0, 1) := by decide +kernel
theorem dX5_mayWant_23 : decode cX5_mayWant 23 = .ok (.iconst 0, 1) := by decide +kernel
theorem dX5_mayWant_24 : decode cX5_mayWant 24 = .ok (.iload_n 3, 1) := by decide +kernel
theorem dX5_mayWant_25 : decode cX5_mayWant 25 = .ok (.invokevirtual 142, 3) := by decide +kernel
theorem dX5_mayWant_28 : decode cX5_mayWant 28 = .ok (.ireturn, 1) := by decide +kernel
set_option maxRecDepth 20000 in
theorem ggX5_wantOne_X5_advance : GoodIn wsX5_wantOne wsX5_advance := goodIn_r _ [10, 11, 12, 13, 14, 15, 16, 17, 18, 19, 20, 21, 9, 22, 23, 24, 25, 26, 27, 28, 29, 30, 31, 32, 33, 54, 55, 56, 57, 58, 59, 60, 61, 62, 63, 64, 65, 66, 67, 68, 69, 70, 71, 72, 73, 74, 75, 76, 77, 78, 79, 80, 81, 82, 83] (by decide +kernel) (by decide +kernel)
set_option maxRecDepth 20000 in
theorem gX5_wantOne_X5_advance : GoodIn wsX5_wantOne (wsV RX5 136 RX5 yX5_advance wsX5_advance) := goodIn_app (goodIn_of _ (by decide +kernel)) ggX5_wantOne_X5_advance
set_option maxRecDepth 20000 in
theorem ggX5_wantOne_X5_isWord : GoodIn wsX5_wantOne wsX5_isWord := goodIn_r _ [37, 13, 14, 54, 55, 56, 57, 58, 59, 60, 61, 62, 63, 64, 65, 66, 67, 68, 69, 70, 71, 72, 73, 74, 75, 76, 77, 78, 79, 80, 81, 82, 83] (by decide +kernel) (by decide +kernel)
set_option maxRecDepth 20000 in
theorem gX5_wantOne_X5_isWord : GoodIn wsX5_wantOne (wsV RX5 104 RX5 yX5_isWord wsX5_isWord) := goodIn_app (goodIn_of _ (by decide +kernel)) ggX5_wantOne_X5_isWord
set_option maxRecDepth 20000 in
theorem ggX5_wantOne_X5_wantNumber : GoodIn wsX5_wantOne wsX5_wantNumber := goodIn_r _ [41, 15, 2, 13, 28, 29, 9, 30, 6, 7, 8, 10, 11, 12, 14, 16, 17, 18, 19, 20, 21, 22, 23, 24, 25, 26, 27, 31, 32, 33, 54, 55, 56, 57, 58, 59, 60, 61, 62, 63, 64, 65, 66, 67, 68, 69, 70, 71, 72, 73, 74, 75, 76, 77, 78, 79, 80, 81, 82, 83] (by decide +kernel) (by decide +kernel)
set_option maxRecDepth 20000 in
theorem gX5_wantOne_X5_wantNumber : GoodIn wsX5_wantOne (wsV RX5 142 RX5 yX5_wantNumber wsX5_wantNumber) := goodIn_app (goodIn_of _ (by decide +kernel)) ggX5_wantOne_X5_wantNumber
set_option maxRecDepth 20000 in
theorem ggX5_wantOne_X5_mayWant : GoodIn wsX5_wantOne wsX5_mayWant := goodIn_r _ [45, 2, 34, 35, 36, 9, 37, 13, 14, 6, 7, 8, 10, 11, 12, 15, 16, 17, 18, 19, 20, 21, 22, 23, 24, 25, 26, 27, 28, 29, 30, 31, 32, 33, 38, 39, 40, 41, 54, 55, 56, 57, 58, 59, 60, 61, 62, 63, 64, 65, 66, 67, 68, 69, 70, 71, 72, 73, 74, 75, 76, 77, 78, 79, 80, 81, 82, 83] (by decide +kernel) (by decide +kernel)
set_option maxRecDepth 20000 in
theorem gX5_wantOne_X5_mayWant : GoodIn wsX5_wantOne (wsV RX5 150 RX5 yX5_mayWant wsX5_mayWant) := goodIn_app (goodIn_of _ (by decide +kernel)) ggX5_wantOne_X5_mayWant
set_option maxRecDepth 20000 in
theorem ggX5_wantOne_X5_wantEnd : GoodIn wsX5_wantOne wsX5_wantEnd := goodIn_r _ [49, 2, 50, 51, 52, 9, 53, 13, 15, 6, 7, 8, 10, 11, 12, 14, 16, 17, 18, 19, 20, 21, 22, 23, 24, 25, 26, 27, 28, 29, 30, 31, 32, 33, 54, 55, 56, 57, 58, 59, 60, 61, 62, 63, 64, 65, 66, 67, 68, 69, 70, 71, 72, 73, 74, 75, 76, 77, 78, 79, 80, 81, 82, 83] (by decide +kernel) (by decide +kernel)
set_option maxRecDepth 20000 in
theorem gX5_wantOne_X5_wantEnd : GoodIn wsX5_wantOne (wsV RX5 156 RX5 yX5_wantEnd wsX5_wantEnd) := goodIn_app (goodIn_of _ (by decide +kernel)) ggX5_wantOne_X5_wantEnd
theorem dX5_wantOne_0 : decode cX5_wantOne 0 = .ok (.aload_n 0, 1) := by decide +kernel
theorem dX5_wantOne_1 : decode cX5_wantOne 1 = .ok (.aload_n 0, 1) := by decide +kernel
theorem dX5_wantOne_2 : decode cX5_wantOne 2 = .ok (.getfield 13, 3) := by decide +kernel
theorem dX5_wantOne_5 : decode cX5_wantOne 5 = .ok (.bipush 6, 2) := by decide +kernel
theorem dX5_wantOne_7 : decode cX5_wantOne 7 = .ok (.iaload, 1) := by decide +kernel
theorem dX5_wantOne_8 : decode cX5_wantOne 8 = .ok (.bipush 8, 2) := by decide +kernel
theorem dX5_wantOne_10 : decode cX5_wantOne 10 = .ok (.if_icmp .ge 7, 3) := by decide +kernel
theorem dX5_wantOne_13 : decode cX5_wantOne 13 = .ok (.iconst 1, 1) := by decide +kernel
theorem dX5_wantOne_14 : decode cX5_wantOne 14 = .ok (.goto 4, 3) := by decide +kernel
theorem dX5_wantOne_17 : decode cX5_wantOne 17 = .ok (.iconst 0, 1) := by decide +kernel
theorem dX5_wantOne_18 : decode cX5_wantOne 18 = .ok (.putfield 132, 3) := by decide +kernel
theorem dX5_wantOne_21 : decode cX5_wantOne 21 = .ok (.aload_n 0, 1) := by decide +kernel
theorem dX5_wantOne_22 : decode cX5_wantOne 22 = .ok (.getfield 132, 3) := by decide +kernel
theorem dX5_wantOne_25 : decode cX5_wantOne 25 = .ok (.ifCond .eq 18, 3) := by decide +kernel
theorem dX5_wantOne_28 : decode cX5_wantOne 28 = .ok (.aload_n 0, 1) := by decide +kernel
theorem dX5_wantOne_29 : decode cX5_wantOne 29 = .ok (.invokevirtual 136, 3) := by decide +kernel
theorem dX5_wantOne_32 : decode cX5_wantOne 32 = .ok (.aload_n 0, 1) := by decide +kernel
theorem dX5_wantOne_33 : decode cX5_wantOne 33 = .ok (.aload_n 0, 1) := by decide +kernel
theorem dX5_wantOne_34 : decode cX5_wantOne 34 = .ok (.ldc2_w 146, 3) := by decide +kernel
theorem dX5_wantOne_37 : decode cX5_wantOne 37 = .ok (.invokevirtual 104, 3) := by decide +kernel
theorem dX5_wantOne_40 : decode cX5_wantOne 40 = .ok (.putfield 132, 3) := by decide +kernel
theorem dX5_wantOne_43 : decode cX5_wantOne 43 = .ok (.aload_n 0, 1) := by decide +kernel
theorem dX5_wantOne_44 : decode cX5_wantOne 44 = .ok (.getfield 132, 3) := by decide +kernel
theorem dX5_wantOne_47 : decode cX5_wantOne 47 = .ok (.ifCond .eq 7, 3) := by decide +kernel
theorem dX5_wantOne_50 : decode cX5_wantOne 50 = .ok (.aload_n 0, 1) := by decide +kernel
theorem dX5_wantOne_51 : decode cX5_wantOne 51 = .ok (.invokevirtual 136, 3) := by decide +kernel
theorem dX5_wantOne_54 : decode cX5_wantOne 54 = .ok (.aload_n 0, 1) := by decide +kernel
theorem dX5_wantOne_55 : decode cX5_wantOne 55 = .ok (.iconst 0, 1) := by decide +kernel
theorem dX5_wantOne_56 : decode cX5_wantOne 56 = .ok (.bipush 9, 2) := by decide +kernel
theorem dX5_wantOne_58 : decode cX5_wantOne 58 = .ok (.invokevirtual 142, 3) := by decide +kernel
theorem dX5_wantOne_61 : decode cX5_wantOne 61 = .ok (.istore_n 2, 1) := by decide +kernel
theorem dX5_wantOne_62 : decode cX5_wantOne 62 = .ok (.aload_n 0, 1) := by decide +kernel
theorem dX5_wantOne_63 : decode cX5_wantOne 63 = .ok (.ldc2_w 148, 3) := by decide +kernel
theorem dX5_wantOne_66 : decode cX5_wantOne 66 = .ok (.bipush 9, 2) := by decide +kernel
theorem dX5_wantOne_68 : decode cX5_wantOne 68 = .ok (.iconst 0, 1) := by decide +kernel
theorem dX5_wantOne_69 : decode cX5_wantOne 69 = .ok (.invokevirtual 150, 3) := by decide +kernel
theorem dX5_wantOne_72 : decode cX5_wantOne 72 = .ok (.istore_n 3, 1) := by decide +kernel
theorem dX5_wantOne_73 : decode cX5_wantOne 73 = .ok (.aload_n 0, 1) := by decide +kernel
theorem dX5_wantOne_74 : decode cX5_wantOne 74 = .ok (.ldc2_w 154, 3) := by decide +kernel
theorem dX5_wantOne_77 : decode cX5_wantOne 77 = .ok (.bipush 99, 2) := by decide +kernel
theorem dX5_wantOne_79 : decode cX5_wantOne 79 = .ok (.iconst 5, 1) := by decide +kernel
theorem dX5_wantOne_80 : decode cX5_wantOne 80 = .ok (.invokevirtual 150, 3) := by decide +kernel
theorem dX5_wantOne_83 : decode cX5_wantOne 83 = .ok (.istore 4, 2) := by decide +kernel
theorem dX5_wantOne_85 : decode cX5_wantOne 85 = .ok (.aload_n 0, 1) := by decide +kernel
theorem dX5_wantOne_86 : decode cX5_wantOne 86 = .ok (.invokevirtual 156, 3) := by decide +kernel
theorem dX5_wantOne_89 : decode cX5_wantOne 89 = .ok (.aload_n 0, 1) := by decide +kernel
theorem dX5_wantOne_90 : decode cX5_wantOne 90 = .ok (.getfield 132, 3) := by decide +kernel
theorem dX5_wantOne_93 : decode cX5_wantOne 93 = .ok (.ifCond .eq 77, 3) := by decide +kernel
theorem dX5_wantOne_96 : decode cX5_wantOne 96 = .ok (.bipush 28, 2) := by decide +kernel
theorem dX5_wantOne_98 : decode cX5_wantOne 98 = .ok (.iconst 5, 1) := by decide +kernel
theorem dX5_wantOne_99 : decode cX5_wantOne 99 = .ok (.aload_n 0, 1) := by decide +kernel
theorem dX5_wantOne_100 : decode cX5_wantOne 100 = .ok (.getfield 13, 3) := by decide +kernel
theorem dX5_wantOne_103 : decode cX5_wantOne 103 = .ok (.bipush 6, 2) := by decide +kernel
theorem dX5_wantOne_105 : decode cX5_wantOne 105 = .ok (.iaload, 1) := by decide +kernel
theorem dX5_wantOne_106 : decode cX5_wantOne 106 = .ok (.imul, 1) := by decide +kernel
theorem dX5_wantOne_107 : decode cX5_wantOne 107 = .ok (.iadd, 1) := by decide +kernel
theorem dX5_wantOne_108 : decode cX5_wantOne 108 = .ok (.istore 5, 2) := by decide +kernel
theorem dX5_wantOne_110 : decode cX5_wantOne 110 = .ok (.aload_n 0, 1) := by decide +kernel
theorem dX5_wantOne_111 : decode cX5_wantOne 111 = .ok (.getfield 13, 3) := by decide +kernel
theorem dX5_wantOne_114 : decode cX5_wantOne 114 = .ok (.iload 5, 2) := by decide +kernel
theorem dX5_wantOne_116 : decode cX5_wantOne 116 = .ok (.iload_n 1, 1) := by decide +kernel
theorem dX5_wantOne_117 : decode cX5_wantOne 117 = .ok (.iastore, 1) := by decide +kernel
theorem dX5_wantOne_118 : decode cX5_wantOne 118 = .ok (.aload_n 0, 1) := by decide +kernel
theorem dX5_wantOne_119 : decode cX5_wantOne 119 = .ok (.getfield 13, 3) := by decide +kernel
theorem dX5_wantOne_122 : decode cX5_wantOne 122 = .ok (.iload 5, 2) := by decide +kernel
theorem dX5_wantOne_124 : decode cX5_wantOne 124 = .ok (.iconst 1, 1) := by decide +kernel
theorem dX5_wantOne_125 : decode cX5_wantOne 125 = .ok (.iadd, 1) := by decide +kernel
theorem dX5_wantOne_126 : decode cX5_wantOne 126 = .ok (.iload_n 3, 1) := by decide +kernel
theorem dX5_wantOne_127 : decode cX5_wantOne 127 = .ok (.iastore, 1) := by decide +kernel
theorem dX5_wantOne_128 : decode cX5_wantOne 128 = .ok (.aload_n 0, 1) := by decide +kernel
theorem dX5_wantOne_129 : decode cX5_wantOne 129 = .ok (.getfield 13, 3) := by decide +kernel
theorem dX5_wantOne_132 : decode cX5_wantOne 132 = .ok (.iload 5, 2) := by decide +kernel
theorem dX5_wantOne_134 : decode cX5_wantOne 134 = .ok (.iconst 2, 1) := by decide +kernel
theorem dX5_wantOne_135 : decode cX5_wantOne 135 = .ok (.iadd, 1) := by decide +kernel
theorem dX5_wantOne_136 : decode cX5_wantOne 136 = .ok (.iload 4, 2) := by decide +kernel
theorem dX5_wantOne_138 : decode cX5_wantOne 138 = .ok (.iastore, 1) := by decide +kernel
theorem dX5_wantOne_139 : decode cX5_wantOne 139 = .ok (.aload_n 0, 1) := by decide +kernel
theorem dX5_wantOne_140 : decode cX5_wantOne 140 = .ok (.getfield 13, 3) := by decide +kernel
theorem dX5_wantOne_143 : decode cX5_wantOne 143 = .ok (.iload 5, 2) := by decide +kernel
theorem dX5_wantOne_145 : decode cX5_wantOne 145 = .ok (.iconst 3, 1) := by decide +kernel
theorem dX5_wantOne_146 : decode cX5_wantOne 146 = .ok (.iadd, 1) := by decide +kernel
theorem dX5_wantOne_147 : decode cX5_wantOne 147 = .ok (.iload_n 2, 1) := by decide +kernel
theorem dX5_wantOne_148 : decode cX5_wantOne 148 = .ok (.iastore, 1) := by decide +kernel
theorem dX5_wantOne_149 : decode cX5_wantOne 149 = .ok (.aload_n 0, 1) := by decide +kernel
theorem dX5_wantOne_150 : decode cX5_wantOne 150 = .ok (.getfield 13, 3) := by decide +kernel
theorem dX5_wantOne_153 : decode cX5_wantOne 153 = .ok (.iload 5, 2) := by decide +kernel
theorem dX5_wantOne_155 : decode cX5_wantOne 155 = .ok (.iconst 4, 1) := by decide +kernel
theorem dX5_wantOne_156 : decode cX5_wantOne 156 = .ok (.iadd, 1) := by decide +kernel
theorem dX5_wantOne_157 : decode cX5_wantOne 157 = .ok (.iconst 0, 1) := by decide +kernel
theorem dX5_wantOne_158 : decode cX5_wantOne 158 = .ok (.iastore, 1) := by decide +kernel
theorem dX5_wantOne_159 : decode cX5_wantOne 159 = .ok (.aload_n 0, 1) := by decide +kernel
theorem dX5_wantOne_160 : decode cX5_wantOne 160 = .ok (.getfield 13, 3) := by decide +kernel
theorem dX5_wantOne_163 : decode cX5_wantOne 163 = .ok (.bipush 6, 2) := by decide +kernel
theorem dX5_wantOne_165 : decode cX5_wantOne 165 = .ok (.dup2, 1) := by decide +kernel
theorem dX5_wantOne_166 : decode cX5_wantOne 166 = .ok (.iaload, 1) := by decide +kernel
theorem dX5_wantOne_167 : decode cX5_wantOne 167 = .ok (.iconst 1, 1) := by decide +kernel
theorem dX5_wantOne_168 : decode cX5_wantOne 168 = .ok (.iadd, 1) := by decide +kernel
theorem dX5_wantOne_169 : decode cX5_wantOne 169 = .ok (.iastore, 1) := by decide +kernel
theorem dX5_wantOne_170 : decode cX5_wantOne 170 = .ok (.return_, 1) := by decide +kernel
set_option maxRecDepth 20000 in
theorem ggX5_wantWall_X5_advance : GoodIn wsX5_wantWall wsX5_advance := goodIn_r _ [8, 9, 10, 11, 12, 13, 14, 15, 16, 17, 18, 19, 7, 20, 21, 22, 23, 24, 25, 26, 27, 28, 29, 30, 31, 59, 60, 61, 62, 63, 64, 65, 66, 67, 68, 69, 70, 71, 72, 73, 74, 75, 76, 77, 78, 79, 80, 81, 82, 83, 84, 85, 86, 87, 88] (by decide +kernel) (by decide +kernel)
set_option maxRecDepth 20000 in
theorem gX5_wantWall_X5_advance : GoodIn wsX5_wantWall (wsV RX5 136 RX5 yX5_advance wsX5_advance) := goodIn_app (goodIn_of _ (by decide +kernel)) ggX5_wantWall_X5_advance
set_option maxRecDepth 20000 in
theorem ggX5_wantWall_X5_wantNumber : GoodIn wsX5_wantWall wsX5_wantNumber := goodIn_r _ [35, 13, 1, 11, 26, 27, 7, 28, 4, 5, 6, 8, 9, 10, 12, 14, 15, 16, 17, 18, 19, 20, 21, 22, 23, 24, 25, 29, 30, 31, 59, 60, 61, 62, 63, 64, 65, 66, 67, 68, 69, 70, 71, 72, 73, 74, 75, 76, 77, 78, 79, 80, 81, 82, 83, 84, 85, 86, 87, 88] (by decide +kernel) (by decide +kernel)
set_option maxRecDepth 20000 in
theorem gX5_wantWall_X5_wantNumber : GoodIn wsX5_wantWall (wsV RX5 142 RX5 yX5_wantNumber wsX5_wantNumber) := goodIn_app (goodIn_of _ (by decide +kernel)) ggX5_wantWall_X5_wantNumber
set_option maxRecDepth 20000 in
theorem ggX5_wantWall_X5_groundHere : GoodIn wsX5_wantWall wsX5_groundHere := goodIn_r _ [39, 40, 41, 42, 43, 44, 45, 7, 46, 11, 12, 59, 60, 61, 62, 63, 64, 65, 66, 67, 68, 69, 70, 71, 72, 73, 74, 75, 76, 77, 78, 79, 80, 81, 82, 83, 84, 85, 86, 87, 88] (by decide +kernel) (by decide +kernel)
set_option maxRecDepth 20000 in
theorem gX5_wantWall_X5_groundHere : GoodIn wsX5_wantWall (wsV RX5 159 RX5 yX5_groundHere wsX5_groundHere) := goodIn_app (goodIn_of _ (by decide +kernel)) ggX5_wantWall_X5_groundHere
set_option maxRecDepth 20000 in
theorem ggX5_wantWall_X5_mayWant : GoodIn wsX5_wantWall wsX5_mayWant := goodIn_r _ [50, 1, 43, 44, 45, 7, 46, 11, 12, 4, 5, 6, 8, 9, 10, 13, 14, 15, 16, 17, 18, 19, 20, 21, 22, 23, 24, 25, 26, 27, 28, 29, 30, 31, 32, 33, 34, 35, 59, 60, 61, 62, 63, 64, 65, 66, 67, 68, 69, 70, 71, 72, 73, 74, 75, 76, 77, 78, 79, 80, 81, 82, 83, 84, 85, 86, 87, 88] (by decide +kernel) (by decide +kernel)
set_option maxRecDepth 20000 in
theorem gX5_wantWall_X5_mayWant : GoodIn wsX5_wantWall (wsV RX5 150 RX5 yX5_mayWant wsX5_mayWant) := goodIn_app (goodIn_of _ (by decide +kernel)) ggX5_wantWall_X5_mayWant
set_option maxRecDepth 20000 in
theorem ggX5_wantWall_X5_wantEnd : GoodIn wsX5_wantWall wsX5_wantEnd := goodIn_r _ [54, 1, 55, 56, 57, 7, 58, 11, 13, 4, 5, 6, 8, 9, 10, 12, 14, 15, 16, 17, 18, 19, 20, 21, 22, 23, 24, 25, 26, 27, 28, 29, 30, 31, 59, 60, 61, 62, 63, 64, 65, 66, 67, 68, 69, 70, 71, 72, 73, 74, 75, 76, 77, 78, 79, 80, 81, 82, 83, 84, 85, 86, 87, 88] (by decide +kernel) (by decide +kernel)
set_option maxRecDepth 20000 in
theorem gX5_wantWall_X5_wantEnd : GoodIn wsX5_wantWall (wsV RX5 156 RX5 yX5_wantEnd wsX5_wantEnd) := goodIn_app (goodIn_of _ (by decide +kernel)) ggX5_wantWall_X5_wantEnd
theorem dX5_wantWall_0 : decode cX5_wantWall 0 = .ok (.aload_n 0, 1) := by decide +kernel
theorem dX5_wantWall_1 : decode cX5_wantWall 1 = .ok (.invokevirtual 136, 3) := by decide +kernel
theorem dX5_wantWall_4 : decode cX5_wantWall 4 = .ok (.aload_n 0, 1) := by decide +kernel
theorem dX5_wantWall_5 : decode cX5_wantWall 5 = .ok (.iconst 0, 1) := by decide +kernel
theorem dX5_wantWall_6 : decode cX5_wantWall 6 = .ok (.bipush 9, 2) := by decide +kernel
theorem dX5_wantWall_8 : decode cX5_wantWall 8 = .ok (.invokevirtual 142, 3) := by decide +kernel
theorem dX5_wantWall_11 : decode cX5_wantWall 11 = .ok (.istore_n 1, 1) := by decide +kernel
theorem dX5_wantWall_12 : decode cX5_wantWall 12 = .ok (.aload_n 0, 1) := by decide +kernel
theorem dX5_wantWall_13 : decode cX5_wantWall 13 = .ok (.getfield 132, 3) := by decide +kernel
theorem dX5_wantWall_16 : decode cX5_wantWall 16 = .ok (.ifCond .ne 4, 3) := by decide +kernel
theorem dX5_wantWall_19 : decode cX5_wantWall 19 = .ok (.return_, 1) := by decide +kernel
theorem dX5_wantWall_20 : decode cX5_wantWall 20 = .ok (.aload_n 0, 1) := by decide +kernel
theorem dX5_wantWall_21 : decode cX5_wantWall 21 = .ok (.invokevirtual 159, 3) := by decide +kernel
theorem dX5_wantWall_24 : decode cX5_wantWall 24 = .ok (.istore_n 2, 1) := by decide +kernel
theorem dX5_wantWall_25 : decode cX5_wantWall 25 = .ok (.aload_n 0, 1) := by decide +kernel
theorem dX5_wantWall_26 : decode cX5_wantWall 26 = .ok (.iload_n 2, 1) := by decide +kernel
theorem dX5_wantWall_27 : decode cX5_wantWall 27 = .ok (.ifCond .lt 7, 3) := by decide +kernel
theorem dX5_wantWall_30 : decode cX5_wantWall 30 = .ok (.iconst 1, 1) := by decide +kernel
theorem dX5_wantWall_31 : decode cX5_wantWall 31 = .ok (.goto 4, 3) := by decide +kernel
theorem dX5_wantWall_34 : decode cX5_wantWall 34 = .ok (.iconst 0, 1) := by decide +kernel
theorem dX5_wantWall_35 : decode cX5_wantWall 35 = .ok (.putfield 132, 3) := by decide +kernel
theorem dX5_wantWall_38 : decode cX5_wantWall 38 = .ok (.aload_n 0, 1) := by decide +kernel
theorem dX5_wantWall_39 : decode cX5_wantWall 39 = .ok (.getfield 132, 3) := by decide +kernel
theorem dX5_wantWall_42 : decode cX5_wantWall 42 = .ok (.ifCond .ne 4, 3) := by decide +kernel
theorem dX5_wantWall_45 : decode cX5_wantWall 45 = .ok (.return_, 1) := by decide +kernel
theorem dX5_wantWall_46 : decode cX5_wantWall 46 = .ok (.aload_n 0, 1) := by decide +kernel
theorem dX5_wantWall_47 : decode cX5_wantWall 47 = .ok (.invokevirtual 136, 3) := by decide +kernel
theorem dX5_wantWall_50 : decode cX5_wantWall 50 = .ok (.aload_n 0, 1) := by decide +kernel
theorem dX5_wantWall_51 : decode cX5_wantWall 51 = .ok (.ldc2_w 163, 3) := by decide +kernel
theorem dX5_wantWall_54 : decode cX5_wantWall 54 = .ok (.bipush 9, 2) := by decide +kernel
theorem dX5_wantWall_56 : decode cX5_wantWall 56 = .ok (.aload_n 0, 1) := by decide +kernel
theorem dX5_wantWall_57 : decode cX5_wantWall 57 = .ok (.getfield 13, 3) := by decide +kernel
theorem dX5_wantWall_60 : decode cX5_wantWall 60 = .ok (.bipush 8, 2) := by decide +kernel
theorem dX5_wantWall_62 : decode cX5_wantWall 62 = .ok (.iconst 2, 1) := by decide +kernel
theorem dX5_wantWall_63 : decode cX5_wantWall 63 = .ok (.iload_n 1, 1) := by decide +kernel
theorem dX5_wantWall_64 : decode cX5_wantWall 64 = .ok (.imul, 1) := by decide +kernel
theorem dX5_wantWall_65 : decode cX5_wantWall 65 = .ok (.iadd, 1) := by decide +kernel
theorem dX5_wantWall_66 : decode cX5_wantWall 66 = .ok (.iconst 1, 1) := by decide +kernel
theorem dX5_wantWall_67 : decode cX5_wantWall 67 = .ok (.iadd, 1) := by decide +kernel
theorem dX5_wantWall_68 : decode cX5_wantWall 68 = .ok (.iaload, 1) := by decide +kernel
theorem dX5_wantWall_69 : decode cX5_wantWall 69 = .ok (.invokevirtual 150, 3) := by decide +kernel
theorem dX5_wantWall_72 : decode cX5_wantWall 72 = .ok (.istore_n 3, 1) := by decide +kernel
theorem dX5_wantWall_73 : decode cX5_wantWall 73 = .ok (.aload_n 0, 1) := by decide +kernel
theorem dX5_wantWall_74 : decode cX5_wantWall 74 = .ok (.invokevirtual 156, 3) := by decide +kernel
theorem dX5_wantWall_77 : decode cX5_wantWall 77 = .ok (.aload_n 0, 1) := by decide +kernel
theorem dX5_wantWall_78 : decode cX5_wantWall 78 = .ok (.getfield 132, 3) := by decide +kernel
theorem dX5_wantWall_81 : decode cX5_wantWall 81 = .ok (.ifCond .eq 29, 3) := by decide +kernel
theorem dX5_wantWall_84 : decode cX5_wantWall 84 = .ok (.aload_n 0, 1) := by decide +kernel
theorem dX5_wantWall_85 : decode cX5_wantWall 85 = .ok (.getfield 13, 3) := by decide +kernel
theorem dX5_wantWall_88 : decode cX5_wantWall 88 = .ok (.bipush 8, 2) := by decide +kernel
theorem dX5_wantWall_90 : decode cX5_wantWall 90 = .ok (.iconst 2, 1) := by decide +kernel
theorem dX5_wantWall_91 : decode cX5_wantWall 91 = .ok (.iload_n 1, 1) := by decide +kernel
theorem dX5_wantWall_92 : decode cX5_wantWall 92 = .ok (.imul, 1) := by decide +kernel
theorem dX5_wantWall_93 : decode cX5_wantWall 93 = .ok (.iadd, 1) := by decide +kernel
theorem dX5_wantWall_94 : decode cX5_wantWall 94 = .ok (.iload_n 2, 1) := by decide +kernel
theorem dX5_wantWall_95 : decode cX5_wantWall 95 = .ok (.iastore, 1) := by decide +kernel
theorem dX5_wantWall_96 : decode cX5_wantWall 96 = .ok (.aload_n 0, 1) := by decide +kernel
theorem dX5_wantWall_97 : decode cX5_wantWall 97 = .ok (.getfield 13, 3) := by decide +kernel
theorem dX5_wantWall_100 : decode cX5_wantWall 100 = .ok (.bipush 8, 2) := by decide +kernel
theorem dX5_wantWall_102 : decode cX5_wantWall 102 = .ok (.iconst 2, 1) := by decide +kernel
theorem dX5_wantWall_103 : decode cX5_wantWall 103 = .ok (.iload_n 1, 1) := by decide +kernel
theorem dX5_wantWall_104 : decode cX5_wantWall 104 = .ok (.imul, 1) := by decide +kernel
theorem dX5_wantWall_105 : decode cX5_wantWall 105 = .ok (.iadd, 1) := by decide +kernel
theorem dX5_wantWall_106 : decode cX5_wantWall 106 = .ok (.iconst 1, 1) := by decide +kernel
theorem dX5_wantWall_107 : decode cX5_wantWall 107 = .ok (.iadd, 1) := by decide +kernel
theorem dX5_wantWall_108 : decode cX5_wantWall 108 = .ok (.iload_n 3, 1) := by decide +kernel
theorem dX5_wantWall_109 : decode cX5_wantWall 109 = .ok (.iastore, 1) := by decide +kernel
theorem dX5_wantWall_110 : decode cX5_wantWall 110 = .ok (.return_, 1) := by decide +kernel
set_option maxRecDepth 20000 in
theorem ggX5_wantClause_X5_lawHere : GoodIn wsX5_wantClause wsX5_lawHere := goodIn_r _ [8, 9, 10, 11, 12, 13, 14, 15, 7, 16, 17, 18, 92, 93, 94, 95, 96, 97, 98, 99, 100, 101, 102, 103, 104, 105, 106, 107, 108, 109, 110, 111, 112, 113, 114, 115, 116, 117, 118, 119, 120, 121] (by decide +kernel) (by decide +kernel)
set_option maxRecDepth 20000 in
theorem gX5_wantClause_X5_lawHere : GoodIn wsX5_wantClause (wsV RX5 165 RX5 yX5_lawHere wsX5_lawHere) := goodIn_app (goodIn_of _ (by decide +kernel)) ggX5_wantClause_X5_lawHere
set_option maxRecDepth 20000 in
theorem ggX5_wantClause_X5_kindHere : GoodIn wsX5_wantClause wsX5_kindHere := goodIn_r _ [22, 23, 24, 25, 26, 27, 28, 13, 14, 15, 7, 16, 17, 18, 92, 93, 94, 95, 96, 97, 98, 99, 100, 101, 102, 103, 104, 105, 106, 107, 108, 109, 110, 111, 112, 113, 114, 115, 116, 117, 118, 119, 120, 121] (by decide +kernel) (by decide +kernel)
set_option maxRecDepth 20000 in
theorem gX5_wantClause_X5_kindHere : GoodIn wsX5_wantClause (wsV RX5 168 RX5 yX5_kindHere wsX5_kindHere) := goodIn_app (goodIn_of _ (by decide +kernel)) ggX5_wantClause_X5_kindHere
set_option maxRecDepth 20000 in
theorem ggX5_wantClause_X5_wantOne : GoodIn wsX5_wantClause wsX5_wantOne := goodIn_r _ [32, 1, 3, 33, 34, 35, 36, 37, 38, 7, 39, 40, 41, 17, 18, 42, 43, 44, 45, 46, 47, 48, 49, 50, 51, 52, 53, 54, 55, 56, 57, 58, 59, 60, 13, 14, 15, 16, 61, 62, 63, 64, 65, 66, 67, 68, 69, 70, 71, 72, 73, 74, 75, 76, 92, 93, 94, 95, 96, 97, 98, 99, 100, 101, 102, 103, 104, 105, 106, 107, 108, 109, 110, 111, 112, 113, 114, 115, 116, 117, 118, 119, 120, 121] (by decide +kernel) (by decide +kernel)
set_option maxRecDepth 20000 in
theorem gX5_wantClause_X5_wantOne : GoodIn wsX5_wantClause (wsV RX5 171 RX5 yX5_wantOne wsX5_wantOne) := goodIn_app (goodIn_of _ (by decide +kernel)) ggX5_wantClause_X5_wantOne
set_option maxRecDepth 20000 in
theorem ggX5_wantClause_X5_advance : GoodIn wsX5_wantClause wsX5_advance := goodIn_r _ [39, 40, 41, 17, 18, 42, 43, 44, 45, 46, 47, 48, 7, 49, 50, 51, 52, 53, 54, 55, 56, 57, 58, 59, 60, 92, 93, 94, 95, 96, 97, 98, 99, 100, 101, 102, 103, 104, 105, 106, 107, 108, 109, 110, 111, 112, 113, 114, 115, 116, 117, 118, 119, 120, 121] (by decide +kernel) (by decide +kernel)
set_option maxRecDepth 20000 in
theorem gX5_wantClause_X5_advance : GoodIn wsX5_wantClause (wsV RX5 136 RX5 yX5_advance wsX5_advance) := goodIn_app (goodIn_of _ (by decide +kernel)) ggX5_wantClause_X5_advance
set_option maxRecDepth 20000 in
theorem ggX5_wantClause_X5_mostOf : GoodIn wsX5_wantClause wsX5_mostOf := goodIn_r _ [79] (by decide +kernel) (by decide +kernel)
set_option maxRecDepth 20000 in
theorem gX5_wantClause_X5_mostOf : GoodIn wsX5_wantClause (va_wsS RX5 175 yX5_mostOf wsX5_mostOf) := goodIn_app (goodIn_of _ (by decide +kernel)) ggX5_wantClause_X5_mostOf
set_option maxRecDepth 20000 in
theorem ggX5_wantClause_X5_wantNumber : GoodIn wsX5_wantClause wsX5_wantNumber := goodIn_r _ [64, 42, 3, 17, 55, 56, 7, 57, 36, 37, 38, 39, 40, 41, 18, 43, 44, 45, 46, 47, 48, 49, 50, 51, 52, 53, 54, 58, 59, 60, 92, 93, 94, 95, 96, 97, 98, 99, 100, 101, 102, 103, 104, 105, 106, 107, 108, 109, 110, 111, 112, 113, 114, 115, 116, 117, 118, 119, 120, 121] (by decide +kernel) (by decide +kernel)
set_option maxRecDepth 20000 in
theorem gX5_wantClause_X5_wantNumber : GoodIn wsX5_wantClause (wsV RX5 142 RX5 yX5_wantNumber wsX5_wantNumber) := goodIn_app (goodIn_of _ (by decide +kernel)) ggX5_wantClause_X5_wantNumber
set_option maxRecDepth 20000 in
theorem ggX5_wantClause_X5_wantEnd : GoodIn wsX5_wantClause wsX5_wantEnd := goodIn_r _ [72, 3, 73, 74, 75, 7, 76, 17, 42, 36, 37, 38, 39, 40, 41, 18, 43, 44, 45, 46, 47, 48, 49, 50, 51, 52, 53, 54, 55, 56, 57, 58, 59, 60, 92, 93, 94, 95, 96, 97, 98, 99, 100, 101, 102, 103, 104, 105, 106, 107, 108, 109, 110, 111, 112, 113, 114, 115, 116, 117, 118, 119, 120, 121] (by decide +kernel) (by decide +kernel)
set_option maxRecDepth 20000 in
theorem gX5_wantClause_X5_wantEnd : GoodIn wsX5_wantClause (wsV RX5 156 RX5 yX5_wantEnd wsX5_wantEnd) := goodIn_app (goodIn_of _ (by decide +kernel)) ggX5_wantClause_X5_wantEnd
set_option maxRecDepth 20000 in
theorem ggX5_wantClause_X5_isWord : GoodIn wsX5_wantClause wsX5_isWord := goodIn_r _ [16, 17, 18, 92, 93, 94, 95, 96, 97, 98, 99, 100, 101, 102, 103, 104, 105, 106, 107, 108, 109, 110, 111, 112, 113, 114, 115, 116, 117, 118, 119, 120, 121] (by decide +kernel) (by decide +kernel)
set_option maxRecDepth 20000 in
theorem gX5_wantClause_X5_isWord : GoodIn wsX5_wantClause (wsV RX5 104 RX5 yX5_isWord wsX5_isWord) := goodIn_app (goodIn_of _ (by decide +kernel)) ggX5_wantClause_X5_isWord
set_option maxRecDepth 20000 in
theorem ggX5_wantClause_X5_wantWall : GoodIn wsX5_wantClause wsX5_wantWall := goodIn_r _ [83, 3, 84, 1, 36, 37, 38, 7, 39, 40, 41, 17, 18, 42, 43, 44, 45, 46, 47, 48, 49, 50, 51, 52, 53, 54, 55, 56, 57, 58, 59, 60, 61, 62, 63, 64, 85, 86, 87, 88, 89, 90, 91, 13, 14, 15, 16, 65, 66, 67, 68, 69, 70, 71, 72, 73, 74, 75, 76, 92, 93, 94, 95, 96, 97, 98, 99, 100, 101, 102, 103, 104, 105, 106, 107, 108, 109, 110, 111, 112, 113, 114, 115, 116, 117, 118, 119, 120, 121] (by decide +kernel) (by decide +kernel)
set_option maxRecDepth 20000 in
theorem gX5_wantClause_X5_wantWall : GoodIn wsX5_wantClause (wsV RX5 180 RX5 yX5_wantWall wsX5_wantWall) := goodIn_app (goodIn_of _ (by decide +kernel)) ggX5_wantClause_X5_wantWall
theorem dX5_wantClause_0 : decode cX5_wantClause 0 = .ok (.aload_n 0, 1) := by decide +kernel
theorem dX5_wantClause_1 : decode cX5_wantClause 1 = .ok (.invokevirtual 165, 3) := by decide +kernel
theorem dX5_wantClause_4 : decode cX5_wantClause 4 = .ok (.istore_n 1, 1) := by decide +kernel
theorem dX5_wantClause_5 : decode cX5_wantClause 5 = .ok (.aload_n 0, 1) := by decide +kernel
theorem dX5_wantClause_6 : decode cX5_wantClause 6 = .ok (.invokevirtual 168, 3) := by decide +kernel
theorem dX5_wantClause_9 : decode cX5_wantClause 9 = .ok (.ifCond .lt 14, 3) := by decide +kernel
theorem dX5_wantClause_12 : decode cX5_wantClause 12 = .ok (.aload_n 0, 1) := by decide +kernel
theorem dX5_wantClause_13 : decode cX5_wantClause 13 = .ok (.aload_n 0, 1) := by decide +kernel
theorem dX5_wantClause_14 : decode cX5_wantClause 14 = .ok (.invokevirtual 168, 3) := by decide +kernel
theorem dX5_wantClause_17 : decode cX5_wantClause 17 = .ok (.invokevirtual 171, 3) := by decide +kernel
theorem dX5_wantClause_20 : decode cX5_wantClause 20 = .ok (.goto 55, 3) := by decide +kernel
theorem dX5_wantClause_23 : decode cX5_wantClause 23 = .ok (.iload_n 1, 1) := by decide +kernel
theorem dX5_wantClause_24 : decode cX5_wantClause 24 = .ok (.ifCond .lt 29, 3) := by decide +kernel
theorem dX5_wantClause_27 : decode cX5_wantClause 27 = .ok (.aload_n 0, 1) := by decide +kernel
theorem dX5_wantClause_28 : decode cX5_wantClause 28 = .ok (.invokevirtual 136, 3) := by decide +kernel
theorem dX5_wantClause_31 : decode cX5_wantClause 31 = .ok (.aload_n 0, 1) := by decide +kernel
theorem dX5_wantClause_32 : decode cX5_wantClause 32 = .ok (.getfield 13, 3) := by decide +kernel
theorem dX5_wantClause_35 : decode cX5_wantClause 35 = .ok (.iload_n 1, 1) := by decide +kernel
theorem dX5_wantClause_36 : decode cX5_wantClause 36 = .ok (.aload_n 0, 1) := by decide +kernel
theorem dX5_wantClause_37 : decode cX5_wantClause 37 = .ok (.iconst 0, 1) := by decide +kernel
theorem dX5_wantClause_38 : decode cX5_wantClause 38 = .ok (.iload_n 1, 1) := by decide +kernel
theorem dX5_wantClause_39 : decode cX5_wantClause 39 = .ok (.invokestatic 175, 3) := by decide +kernel
theorem dX5_wantClause_42 : decode cX5_wantClause 42 = .ok (.invokevirtual 142, 3) := by decide +kernel
theorem dX5_wantClause_45 : decode cX5_wantClause 45 = .ok (.iastore, 1) := by decide +kernel
theorem dX5_wantClause_46 : decode cX5_wantClause 46 = .ok (.aload_n 0, 1) := by decide +kernel
theorem dX5_wantClause_47 : decode cX5_wantClause 47 = .ok (.invokevirtual 156, 3) := by decide +kernel
theorem dX5_wantClause_50 : decode cX5_wantClause 50 = .ok (.goto 25, 3) := by decide +kernel
theorem dX5_wantClause_53 : decode cX5_wantClause 53 = .ok (.aload_n 0, 1) := by decide +kernel
theorem dX5_wantClause_54 : decode cX5_wantClause 54 = .ok (.ldc2_w 178, 3) := by decide +kernel
theorem dX5_wantClause_57 : decode cX5_wantClause 57 = .ok (.invokevirtual 104, 3) := by decide +kernel
theorem dX5_wantClause_60 : decode cX5_wantClause 60 = .ok (.ifCond .eq 10, 3) := by decide +kernel
theorem dX5_wantClause_63 : decode cX5_wantClause 63 = .ok (.aload_n 0, 1) := by decide +kernel
theorem dX5_wantClause_64 : decode cX5_wantClause 64 = .ok (.invokevirtual 180, 3) := by decide +kernel
theorem dX5_wantClause_67 : decode cX5_wantClause 67 = .ok (.goto 8, 3) := by decide +kernel
theorem dX5_wantClause_70 : decode cX5_wantClause 70 = .ok (.aload_n 0, 1) := by decide +kernel
theorem dX5_wantClause_71 : decode cX5_wantClause 71 = .ok (.iconst 0, 1) := by decide +kernel
theorem dX5_wantClause_72 : decode cX5_wantClause 72 = .ok (.putfield 132, 3) := by decide +kernel
theorem dX5_wantClause_75 : decode cX5_wantClause 75 = .ok (.return_, 1) := by decide +kernel
set_option maxRecDepth 20000 in
theorem ggX5_town_X5_begins : GoodIn wsX5_town wsX5_begins := goodIn_r _ [12] (by decide +kernel) (by decide +kernel)
set_option maxRecDepth 20000 in
theorem gX5_town_X5_begins : GoodIn wsX5_town (va_wsS RX5 56 yX5_begins wsX5_begins) := goodIn_app (goodIn_of _ (by decide +kernel)) ggX5_town_X5_begins
set_option maxRecDepth 20000 in
theorem ggX5_town_X5_advance : GoodIn wsX5_town wsX5_advance := goodIn_r _ [16, 1, 6, 4, 17, 18, 19, 20, 21, 22, 23, 24, 11, 25, 5, 26, 27, 28, 29, 30, 31, 32, 33, 34, 35, 104, 105, 106, 107, 108, 109, 110, 111, 112, 113, 114, 115, 116, 117, 118, 119, 120, 121, 122, 123, 124, 125, 126, 127, 128, 129, 130, 131, 132, 133] (by decide +kernel) (by decide +kernel)
set_option maxRecDepth 20000 in
theorem gX5_town_X5_advance : GoodIn wsX5_town (wsV RX5 136 RX5 yX5_advance wsX5_advance) := goodIn_app (goodIn_of _ (by decide +kernel)) ggX5_town_X5_advance
set_option maxRecDepth 20000 in
theorem ggX5_town_X5_wantClause : GoodIn wsX5_town wsX5_wantClause := goodIn_r _ [39, 3, 40, 2, 41, 42, 43, 11, 44, 45, 46, 47, 48, 49, 50, 51, 52, 4, 17, 53, 54, 55, 56, 57, 58, 59, 60, 61, 62, 63, 64, 65, 66, 67, 68, 69, 13, 14, 15, 16, 1, 6, 18, 19, 20, 21, 22, 23, 24, 25, 5, 26, 27, 28, 29, 30, 31, 32, 33, 34, 35, 70, 71, 72, 73, 74, 75, 76, 77, 78, 79, 80, 81, 82, 83, 84, 85, 86, 87, 88, 89, 90, 91, 92, 93, 94, 95, 96, 97, 98, 99, 100, 104, 105, 106, 107, 108, 109, 110, 111, 112, 113, 114, 115, 116, 117, 118, 119, 120, 121, 122, 123, 124, 125, 126, 127, 128, 129, 130, 131, 132, 133] (by decide +kernel) (by decide +kernel)
set_option maxRecDepth 20000 in
theorem gX5_town_X5_wantClause : GoodIn wsX5_town (wsV RX5 183 RX5 yX5_wantClause wsX5_wantClause) := goodIn_app (goodIn_of _ (by decide +kernel)) ggX5_town_X5_wantClause
set_option maxRecDepth 20000 in
theorem ggX5_town_X5_moveAll : GoodIn wsX5_town wsX5_moveAll := goodIn_r _ [103] (by decide +kernel) (by decide +kernel)
set_option maxRecDepth 20000 in
theorem gX5_town_X5_moveAll : GoodIn wsX5_town (va_wsS RX5 186 yX5_moveAll wsX5_moveAll) := goodIn_app (goodIn_of _ (by decide +kernel)) ggX5_town_X5_moveAll
theorem dX5_town_0 : decode cX5_town 0 = .ok (.aload_n 0, 1) := by decide +kernel
theorem dX5_town_1 : decode cX5_town 1 = .ok (.iconst 0, 1) := by decide +kernel
theorem dX5_town_2 : decode cX5_town 2 = .ok (.putfield 70, 3) := by decide +kernel
theorem dX5_town_5 : decode cX5_town 5 = .ok (.aload_n 0, 1) := by decide +kernel
theorem dX5_town_6 : decode cX5_town 6 = .ok (.iconst 1, 1) := by decide +kernel
theorem dX5_town_7 : decode cX5_town 7 = .ok (.putfield 132, 3) := by decide +kernel
theorem dX5_town_10 : decode cX5_town 10 = .ok (.aload_n 0, 1) := by decide +kernel
theorem dX5_town_11 : decode cX5_town 11 = .ok (.getfield 13, 3) := by decide +kernel
theorem dX5_town_14 : decode cX5_town 14 = .ok (.invokestatic 56, 3) := by decide +kernel
theorem dX5_town_17 : decode cX5_town 17 = .ok (.aload_n 0, 1) := by decide +kernel
theorem dX5_town_18 : decode cX5_town 18 = .ok (.invokevirtual 136, 3) := by decide +kernel
theorem dX5_town_21 : decode cX5_town 21 = .ok (.aload_n 0, 1) := by decide +kernel
theorem dX5_town_22 : decode cX5_town 22 = .ok (.getfield 132, 3) := by decide +kernel
theorem dX5_town_25 : decode cX5_town 25 = .ok (.ifCond .eq 17, 3) := by decide +kernel
theorem dX5_town_28 : decode cX5_town 28 = .ok (.aload_n 0, 1) := by decide +kernel
theorem dX5_town_29 : decode cX5_town 29 = .ok (.getfield 86, 3) := by decide +kernel
theorem dX5_town_32 : decode cX5_town 32 = .ok (.ifCond .eq 10, 3) := by decide +kernel
theorem dX5_town_35 : decode cX5_town 35 = .ok (.aload_n 0, 1) := by decide +kernel
theorem dX5_town_36 : decode cX5_town 36 = .ok (.invokevirtual 183, 3) := by decide +kernel
theorem dX5_town_39 : decode cX5_town 39 = .ok (.goto (-18), 3) := by decide +kernel
theorem dX5_town_42 : decode cX5_town 42 = .ok (.aload_n 0, 1) := by decide +kernel
theorem dX5_town_43 : decode cX5_town 43 = .ok (.iconst 0, 1) := by decide +kernel
theorem dX5_town_44 : decode cX5_town 44 = .ok (.putfield 64, 3) := by decide +kernel
theorem dX5_town_47 : decode cX5_town 47 = .ok (.aload_n 0, 1) := by decide +kernel
theorem dX5_town_48 : decode cX5_town 48 = .ok (.getfield 132, 3) := by decide +kernel
theorem dX5_town_51 : decode cX5_town 51 = .ok (.ifCond .ne 11, 3) := by decide +kernel
theorem dX5_town_54 : decode cX5_town 54 = .ok (.bipush (-100), 2) := by decide +kernel
theorem dX5_town_56 : decode cX5_town 56 = .ok (.aload_n 0, 1) := by decide +kernel
theorem dX5_town_57 : decode cX5_town 57 = .ok (.getfield 73, 3) := by decide +kernel
theorem dX5_town_60 : decode cX5_town 60 = .ok (.isub, 1) := by decide +kernel
theorem dX5_town_61 : decode cX5_town 61 = .ok (.ireturn, 1) := by decide +kernel
theorem dX5_town_62 : decode cX5_town 62 = .ok (.aload_n 0, 1) := by decide +kernel
theorem dX5_town_63 : decode cX5_town 63 = .ok (.getfield 13, 3) := by decide +kernel
theorem dX5_town_66 : decode cX5_town 66 = .ok (.bipush 7, 2) := by decide +kernel
theorem dX5_town_68 : decode cX5_town 68 = .ok (.aload_n 0, 1) := by decide +kernel
theorem dX5_town_69 : decode cX5_town 69 = .ok (.getfield 7, 3) := by decide +kernel
theorem dX5_town_72 : decode cX5_town 72 = .ok (.bipush 7, 2) := by decide +kernel
theorem dX5_town_74 : decode cX5_town 74 = .ok (.iaload, 1) := by decide +kernel
theorem dX5_town_75 : decode cX5_town 75 = .ok (.iastore, 1) := by decide +kernel
theorem dX5_town_76 : decode cX5_town 76 = .ok (.aload_n 0, 1) := by decide +kernel
theorem dX5_town_77 : decode cX5_town 77 = .ok (.getfield 13, 3) := by decide +kernel
theorem dX5_town_80 : decode cX5_town 80 = .ok (.aload_n 0, 1) := by decide +kernel
theorem dX5_town_81 : decode cX5_town 81 = .ok (.getfield 7, 3) := by decide +kernel
theorem dX5_town_84 : decode cX5_town 84 = .ok (.invokestatic 186, 3) := by decide +kernel
theorem dX5_town_87 : decode cX5_town 87 = .ok (.aload_n 0, 1) := by decide +kernel
theorem dX5_town_88 : decode cX5_town 88 = .ok (.iconst 0, 1) := by decide +kernel
theorem dX5_town_89 : decode cX5_town 89 = .ok (.putfield 190, 3) := by decide +kernel
theorem dX5_town_92 : decode cX5_town 92 = .ok (.aload_n 0, 1) := by decide +kernel
theorem dX5_town_93 : decode cX5_town 93 = .ok (.getfield 7, 3) := by decide +kernel
theorem dX5_town_96 : decode cX5_town 96 = .ok (.bipush 6, 2) := by decide +kernel
theorem dX5_town_98 : decode cX5_town 98 = .ok (.iaload, 1) := by decide +kernel
theorem dX5_town_99 : decode cX5_town 99 = .ok (.ireturn, 1) := by decide +kernel
theorem dX5_mostOf_0 : decode cX5_mostOf 0 = .ok (.iload_n 0, 1) := by decide +kernel
theorem dX5_mostOf_1 : decode cX5_mostOf 1 = .ok (.iconst 2, 1) := by decide +kernel
theorem dX5_mostOf_2 : decode cX5_mostOf 2 = .ok (.if_icmp .ge 8, 3) := by decide +kernel
theorem dX5_mostOf_5 : decode cX5_mostOf 5 = .ok (.bipush 9, 2) := by decide +kernel
theorem dX5_mostOf_7 : decode cX5_mostOf 7 = .ok (.goto 5, 3) := by decide +kernel
theorem dX5_mostOf_10 : decode cX5_mostOf 10 = .ok (.bipush 99, 2) := by decide +kernel
theorem dX5_mostOf_12 : decode cX5_mostOf 12 = .ok (.ireturn, 1) := by decide +kernel
set_option maxRecDepth 20000 in
theorem ggX5_set_X5_in : GoodIn wsX5_set wsX5_in := goodIn_r _ [4] (by decide +kernel) (by decide +kernel)
set_option maxRecDepth 20000 in
theorem gX5_set_X5_in : GoodIn wsX5_set (va_wsS RX5 60 yX5_in wsX5_in) := goodIn_app (goodIn_of _ (by decide +kernel)) ggX5_set_X5_in
set_option maxRecDepth 20000 in
theorem ggX5_set_X5_mostOf : GoodIn wsX5_set wsX5_mostOf := goodIn_r _ [7] (by decide +kernel) (by decide +kernel)
set_option maxRecDepth 20000 in
theorem gX5_set_X5_mostOf : GoodIn wsX5_set (va_wsS RX5 175 yX5_mostOf wsX5_mostOf) := goodIn_app (goodIn_of _ (by decide +kernel)) ggX5_set_X5_mostOf
set_option maxRecDepth 20000 in
theorem ggX5_set_X5_becomes : GoodIn wsX5_set wsX5_becomes := goodIn_r _ [11, 12, 13, 14, 15, 16, 17, 18, 19, 20, 21, 22, 23, 24, 25, 26, 27, 28, 29, 30, 31, 32, 33, 34, 35, 36, 37, 38, 39, 40, 41, 42] (by decide +kernel) (by decide +kernel)
set_option maxRecDepth 20000 in
theorem gX5_set_X5_becomes : GoodIn wsX5_set (wsV RX5 193 RX5 yX5_becomes wsX5_becomes) := goodIn_app (goodIn_of _ (by decide +kernel)) ggX5_set_X5_becomes
theorem dX5_set_0 : decode cX5_set 0 = .ok (.iload_n 1, 1) := by decide +kernel
theorem dX5_set_1 : decode cX5_set 1 = .ok (.iconst 0, 1) := by decide +kernel
theorem dX5_set_2 : decode cX5_set 2 = .ok (.iconst 3, 1) := by decide +kernel
theorem dX5_set_3 : decode cX5_set 3 = .ok (.invokestatic 60, 3) := by decide +kernel
theorem dX5_set_6 : decode cX5_set 6 = .ok (.ifCond .eq 24, 3) := by decide +kernel
theorem dX5_set_9 : decode cX5_set 9 = .ok (.iload_n 2, 1) := by decide +kernel
theorem dX5_set_10 : decode cX5_set 10 = .ok (.iconst 0, 1) := by decide +kernel
theorem dX5_set_11 : decode cX5_set 11 = .ok (.iload_n 1, 1) := by decide +kernel
theorem dX5_set_12 : decode cX5_set 12 = .ok (.invokestatic 175, 3) := by decide +kernel
theorem dX5_set_15 : decode cX5_set 15 = .ok (.invokestatic 60, 3) := by decide +kernel
theorem dX5_set_18 : decode cX5_set 18 = .ok (.ifCond .eq 12, 3) := by decide +kernel
theorem dX5_set_21 : decode cX5_set 21 = .ok (.aload_n 0, 1) := by decide +kernel
theorem dX5_set_22 : decode cX5_set 22 = .ok (.iload_n 1, 1) := by decide +kernel
theorem dX5_set_23 : decode cX5_set 23 = .ok (.iload_n 2, 1) := by decide +kernel
theorem dX5_set_24 : decode cX5_set 24 = .ok (.invokevirtual 193, 3) := by decide +kernel
theorem dX5_set_27 : decode cX5_set 27 = .ok (.goto 4, 3) := by decide +kernel
theorem dX5_set_30 : decode cX5_set 30 = .ok (.iconst (-1), 1) := by decide +kernel
theorem dX5_set_31 : decode cX5_set 31 = .ok (.ireturn, 1) := by decide +kernel
set_option maxRecDepth 20000 in
theorem ggX5_lawOf_X5_in : GoodIn wsX5_lawOf wsX5_in := goodIn_r _ [5] (by decide +kernel) (by decide +kernel)
set_option maxRecDepth 20000 in
theorem gX5_lawOf_X5_in : GoodIn wsX5_lawOf (va_wsS RX5 60 yX5_in wsX5_in) := goodIn_app (goodIn_of _ (by decide +kernel)) ggX5_lawOf_X5_in
theorem dX5_lawOf_0 : decode cX5_lawOf 0 = .ok (.iload_n 1, 1) := by decide +kernel
theorem dX5_lawOf_1 : decode cX5_lawOf 1 = .ok (.iconst 0, 1) := by decide +kernel
theorem dX5_lawOf_2 : decode cX5_lawOf 2 = .ok (.iconst 3, 1) := by decide +kernel
theorem dX5_lawOf_3 : decode cX5_lawOf 3 = .ok (.invokestatic 60, 3) := by decide +kernel
theorem dX5_lawOf_6 : decode cX5_lawOf 6 = .ok (.ifCond .eq 12, 3) := by decide +kernel
theorem dX5_lawOf_9 : decode cX5_lawOf 9 = .ok (.aload_n 0, 1) := by decide +kernel
theorem dX5_lawOf_10 : decode cX5_lawOf 10 = .ok (.getfield 7, 3) := by decide +kernel
theorem dX5_lawOf_13 : decode cX5_lawOf 13 = .ok (.iload_n 1, 1) := by decide +kernel
theorem dX5_lawOf_14 : decode cX5_lawOf 14 = .ok (.iaload, 1) := by decide +kernel
theorem dX5_lawOf_15 : decode cX5_lawOf 15 = .ok (.goto 4, 3) := by decide +kernel
theorem dX5_lawOf_18 : decode cX5_lawOf 18 = .ok (.iconst (-1), 1) := by decide +kernel
theorem dX5_lawOf_19 : decode cX5_lawOf 19 = .ok (.ireturn, 1) := by decide +kernel
set_option maxRecDepth 20000 in
theorem ggX5_isKind_X5_in : GoodIn wsX5_isKind wsX5_in := goodIn_r _ [4] (by decide +kernel) (by decide +kernel)
set_option maxRecDepth 20000 in
theorem gX5_isKind_X5_in : GoodIn wsX5_isKind (va_wsS RX5 60 yX5_in wsX5_in) := goodIn_app (goodIn_of _ (by decide +kernel)) ggX5_isKind_X5_in
theorem dX5_isKind_0 : decode cX5_isKind 0 = .ok (.iload_n 0, 1) := by decide +kernel
theorem dX5_isKind_1 : decode cX5_isKind 1 = .ok (.iconst 0, 1) := by decide +kernel
theorem dX5_isKind_2 : decode cX5_isKind 2 = .ok (.iconst 5, 1) := by decide +kernel
theorem dX5_isKind_3 : decode cX5_isKind 3 = .ok (.invokestatic 60, 3) := by decide +kernel
theorem dX5_isKind_6 : decode cX5_isKind 6 = .ok (.ifCond .eq 17, 3) := by decide +kernel
theorem dX5_isKind_9 : decode cX5_isKind 9 = .ok (.iload_n 1, 1) := by decide +kernel
theorem dX5_isKind_10 : decode cX5_isKind 10 = .ok (.iconst 0, 1) := by decide +kernel
theorem dX5_isKind_11 : decode cX5_isKind 11 = .ok (.bipush 9, 2) := by decide +kernel
theorem dX5_isKind_13 : decode cX5_isKind 13 = .ok (.invokestatic 60, 3) := by decide +kernel
theorem dX5_isKind_16 : decode cX5_isKind 16 = .ok (.ifCond .eq 7, 3) := by decide +kernel
theorem dX5_isKind_19 : decode cX5_isKind 19 = .ok (.iconst 1, 1) := by decide +kernel
theorem dX5_isKind_20 : decode cX5_isKind 20 = .ok (.goto 4, 3) := by decide +kernel
theorem dX5_isKind_23 : decode cX5_isKind 23 = .ok (.iconst 0, 1) := by decide +kernel
theorem dX5_isKind_24 : decode cX5_isKind 24 = .ok (.ireturn, 1) := by decide +kernel
set_option maxRecDepth 20000 in
theorem ggX5_name_X5_isKind : GoodIn wsX5_name wsX5_isKind := goodIn_r _ [5, 6, 7, 4, 8] (by decide +kernel) (by decide +kernel)
set_option maxRecDepth 20000 in
theorem gX5_name_X5_isKind : GoodIn wsX5_name (va_wsS RX5 196 yX5_isKind wsX5_isKind) := goodIn_app (goodIn_of _ (by decide +kernel)) ggX5_name_X5_isKind
set_option maxRecDepth 20000 in
theorem ggX5_name_X5_in : GoodIn wsX5_name wsX5_in := goodIn_r _ [8] (by decide +kernel) (by decide +kernel)
set_option maxRecDepth 20000 in
theorem gX5_name_X5_in : GoodIn wsX5_name (va_wsS RX5 60 yX5_in wsX5_in) := goodIn_app (goodIn_of _ (by decide +kernel)) ggX5_name_X5_in
set_option maxRecDepth 20000 in
theorem ggX5_name_X5_isWall : GoodIn wsX5_name wsX5_isWall := goodIn_r _ [11, 6, 7, 4, 8] (by decide +kernel) (by decide +kernel)
set_option maxRecDepth 20000 in
theorem gX5_name_X5_isWall : GoodIn wsX5_name (va_wsS RX5 200 yX5_isWall wsX5_isWall) := goodIn_app (goodIn_of _ (by decide +kernel)) ggX5_name_X5_isWall
set_option maxRecDepth 20000 in
theorem ggX5_name_X5_sets : GoodIn wsX5_name wsX5_sets := goodIn_r _ [15, 1, 16, 17, 18, 19, 20, 21, 22, 23, 24, 25, 26, 27, 28, 29, 30, 31, 32, 33, 34, 35, 36, 37, 38, 39, 40, 41, 42, 43, 44, 45] (by decide +kernel) (by decide +kernel)
set_option maxRecDepth 20000 in
theorem gX5_name_X5_sets : GoodIn wsX5_name (wsV RX5 203 RX5 yX5_sets wsX5_sets) := goodIn_app (goodIn_of _ (by decide +kernel)) ggX5_name_X5_sets
theorem dX5_name_0 : decode cX5_name 0 = .ok (.iload_n 1, 1) := by decide +kernel
theorem dX5_name_1 : decode cX5_name 1 = .ok (.iload_n 2, 1) := by decide +kernel
theorem dX5_name_2 : decode cX5_name 2 = .ok (.invokestatic 196, 3) := by decide +kernel
theorem dX5_name_5 : decode cX5_name 5 = .ok (.ifCond .eq 21, 3) := by decide +kernel
theorem dX5_name_8 : decode cX5_name 8 = .ok (.iload_n 3, 1) := by decide +kernel
theorem dX5_name_9 : decode cX5_name 9 = .ok (.iconst 0, 1) := by decide +kernel
theorem dX5_name_10 : decode cX5_name 10 = .ok (.bipush 99, 2) := by decide +kernel
theorem dX5_name_12 : decode cX5_name 12 = .ok (.invokestatic 60, 3) := by decide +kernel
theorem dX5_name_15 : decode cX5_name 15 = .ok (.ifCond .eq 11, 3) := by decide +kernel
theorem dX5_name_18 : decode cX5_name 18 = .ok (.iload 4, 2) := by decide +kernel
theorem dX5_name_20 : decode cX5_name 20 = .ok (.invokestatic 200, 3) := by decide +kernel
theorem dX5_name_23 : decode cX5_name 23 = .ok (.ifCond .ne 5, 3) := by decide +kernel
theorem dX5_name_26 : decode cX5_name 26 = .ok (.iconst (-1), 1) := by decide +kernel
theorem dX5_name_27 : decode cX5_name 27 = .ok (.ireturn, 1) := by decide +kernel
theorem dX5_name_28 : decode cX5_name 28 = .ok (.aload_n 0, 1) := by decide +kernel
theorem dX5_name_29 : decode cX5_name 29 = .ok (.getfield 7, 3) := by decide +kernel
theorem dX5_name_32 : decode cX5_name 32 = .ok (.bipush 6, 2) := by decide +kernel
theorem dX5_name_34 : decode cX5_name 34 = .ok (.iaload, 1) := by decide +kernel
theorem dX5_name_35 : decode cX5_name 35 = .ok (.bipush 8, 2) := by decide +kernel
theorem dX5_name_37 : decode cX5_name 37 = .ok (.if_icmp .ne 6, 3) := by decide +kernel
theorem dX5_name_40 : decode cX5_name 40 = .ok (.bipush (-2), 2) := by decide +kernel
theorem dX5_name_42 : decode cX5_name 42 = .ok (.ireturn, 1) := by decide +kernel
theorem dX5_name_43 : decode cX5_name 43 = .ok (.aload_n 0, 1) := by decide +kernel
theorem dX5_name_44 : decode cX5_name 44 = .ok (.getfield 7, 3) := by decide +kernel
theorem dX5_name_47 : decode cX5_name 47 = .ok (.bipush 6, 2) := by decide +kernel
theorem dX5_name_49 : decode cX5_name 49 = .ok (.iaload, 1) := by decide +kernel
theorem dX5_name_50 : decode cX5_name 50 = .ok (.istore 5, 2) := by decide +kernel
theorem dX5_name_52 : decode cX5_name 52 = .ok (.aload_n 0, 1) := by decide +kernel
theorem dX5_name_53 : decode cX5_name 53 = .ok (.iload 5, 2) := by decide +kernel
theorem dX5_name_55 : decode cX5_name 55 = .ok (.iconst 0, 1) := by decide +kernel
theorem dX5_name_56 : decode cX5_name 56 = .ok (.iload_n 1, 1) := by decide +kernel
theorem dX5_name_57 : decode cX5_name 57 = .ok (.invokevirtual 203, 3) := by decide +kernel
theorem dX5_name_60 : decode cX5_name 60 = .ok (.aload_n 0, 1) := by decide +kernel
theorem dX5_name_61 : decode cX5_name 61 = .ok (.iload 5, 2) := by decide +kernel
theorem dX5_name_63 : decode cX5_name 63 = .ok (.iconst 1, 1) := by decide +kernel
theorem dX5_name_64 : decode cX5_name 64 = .ok (.iload_n 2, 1) := by decide +kernel
theorem dX5_name_65 : decode cX5_name 65 = .ok (.invokevirtual 203, 3) := by decide +kernel
theorem dX5_name_68 : decode cX5_name 68 = .ok (.aload_n 0, 1) := by decide +kernel
theorem dX5_name_69 : decode cX5_name 69 = .ok (.iload 5, 2) := by decide +kernel
theorem dX5_name_71 : decode cX5_name 71 = .ok (.iconst 2, 1) := by decide +kernel
theorem dX5_name_72 : decode cX5_name 72 = .ok (.iload_n 3, 1) := by decide +kernel
theorem dX5_name_73 : decode cX5_name 73 = .ok (.invokevirtual 203, 3) := by decide +kernel
theorem dX5_name_76 : decode cX5_name 76 = .ok (.aload_n 0, 1) := by decide +kernel
theorem dX5_name_77 : decode cX5_name 77 = .ok (.iload 5, 2) := by decide +kernel
theorem dX5_name_79 : decode cX5_name 79 = .ok (.iconst 3, 1) := by decide +kernel
theorem dX5_name_80 : decode cX5_name 80 = .ok (.iload 4, 2) := by decide +kernel
theorem dX5_name_82 : decode cX5_name 82 = .ok (.invokevirtual 203, 3) := by decide +kernel
theorem dX5_name_85 : decode cX5_name 85 = .ok (.aload_n 0, 1) := by decide +kernel
theorem dX5_name_86 : decode cX5_name 86 = .ok (.iload 5, 2) := by decide +kernel
theorem dX5_name_88 : decode cX5_name 88 = .ok (.iconst 4, 1) := by decide +kernel
theorem dX5_name_89 : decode cX5_name 89 = .ok (.iconst 0, 1) := by decide +kernel
theorem dX5_name_90 : decode cX5_name 90 = .ok (.invokevirtual 203, 3) := by decide +kernel
theorem dX5_name_93 : decode cX5_name 93 = .ok (.aload_n 0, 1) := by decide +kernel
theorem dX5_name_94 : decode cX5_name 94 = .ok (.getfield 7, 3) := by decide +kernel
theorem dX5_name_97 : decode cX5_name 97 = .ok (.bipush 6, 2) := by decide +kernel
theorem dX5_name_99 : decode cX5_name 99 = .ok (.dup2, 1) := by decide +kernel
theorem dX5_name_100 : decode cX5_name 100 = .ok (.iaload, 1) := by decide +kernel
theorem dX5_name_101 : decode cX5_name 101 = .ok (.iconst 1, 1) := by decide +kernel
theorem dX5_name_102 : decode cX5_name 102 = .ok (.iadd, 1) := by decide +kernel
theorem dX5_name_103 : decode cX5_name 103 = .ok (.iastore, 1) := by decide +kernel
theorem dX5_name_104 : decode cX5_name 104 = .ok (.iload 5, 2) := by decide +kernel
theorem dX5_name_106 : decode cX5_name 106 = .ok (.ireturn, 1) := by decide +kernel
set_option maxRecDepth 20000 in
theorem ggX5_of_X5_isOne : GoodIn wsX5_of wsX5_isOne := goodIn_r _ [5, 6, 7, 8, 4, 9, 14, 15, 16, 17, 18, 19, 20, 21, 22, 23, 24, 25, 26, 27, 28, 29, 30, 31, 32, 33, 34, 35, 36, 37, 38, 39, 40, 41, 42, 43] (by decide +kernel) (by decide +kernel)
set_option maxRecDepth 20000 in
theorem gX5_of_X5_isOne : GoodIn wsX5_of (wsV RX5 207 RX5 yX5_isOne wsX5_isOne) := goodIn_app (goodIn_of _ (by decide +kernel)) ggX5_of_X5_isOne
set_option maxRecDepth 20000 in
theorem ggX5_of_X5_in : GoodIn wsX5_of wsX5_in := goodIn_r _ [9] (by decide +kernel) (by decide +kernel)
set_option maxRecDepth 20000 in
theorem gX5_of_X5_in : GoodIn wsX5_of (va_wsS RX5 60 yX5_in wsX5_in) := goodIn_app (goodIn_of _ (by decide +kernel)) ggX5_of_X5_in
set_option maxRecDepth 20000 in
theorem ggX5_of_X5_its : GoodIn wsX5_of wsX5_its := goodIn_r _ [13, 6, 14, 15, 16, 17, 18, 19, 20, 21, 22, 23, 24, 25, 26, 27, 28, 29, 30, 31, 32, 33, 34, 35, 36, 37, 38, 39, 40, 41, 42, 43] (by decide +kernel) (by decide +kernel)
set_option maxRecDepth 20000 in
theorem gX5_of_X5_its : GoodIn wsX5_of (wsV RX5 210 RX5 yX5_its wsX5_its) := goodIn_app (goodIn_of _ (by decide +kernel)) ggX5_of_X5_its
theorem dX5_of_0 : decode cX5_of 0 = .ok (.aload_n 0, 1) := by decide +kernel
theorem dX5_of_1 : decode cX5_of 1 = .ok (.iload_n 1, 1) := by decide +kernel
theorem dX5_of_2 : decode cX5_of 2 = .ok (.invokevirtual 207, 3) := by decide +kernel
theorem dX5_of_5 : decode cX5_of 5 = .ok (.ifCond .eq 21, 3) := by decide +kernel
theorem dX5_of_8 : decode cX5_of 8 = .ok (.iload_n 2, 1) := by decide +kernel
theorem dX5_of_9 : decode cX5_of 9 = .ok (.iconst 0, 1) := by decide +kernel
theorem dX5_of_10 : decode cX5_of 10 = .ok (.iconst 4, 1) := by decide +kernel
theorem dX5_of_11 : decode cX5_of 11 = .ok (.invokestatic 60, 3) := by decide +kernel
theorem dX5_of_14 : decode cX5_of 14 = .ok (.ifCond .eq 12, 3) := by decide +kernel
theorem dX5_of_17 : decode cX5_of 17 = .ok (.aload_n 0, 1) := by decide +kernel
theorem dX5_of_18 : decode cX5_of 18 = .ok (.iload_n 1, 1) := by decide +kernel
theorem dX5_of_19 : decode cX5_of 19 = .ok (.iload_n 2, 1) := by decide +kernel
theorem dX5_of_20 : decode cX5_of 20 = .ok (.invokevirtual 210, 3) := by decide +kernel
theorem dX5_of_23 : decode cX5_of 23 = .ok (.goto 4, 3) := by decide +kernel
theorem dX5_of_26 : decode cX5_of 26 = .ok (.iconst (-1), 1) := by decide +kernel
theorem dX5_of_27 : decode cX5_of 27 = .ok (.ireturn, 1) := by decide +kernel
set_option maxRecDepth 20000 in
theorem ggX5_isGone_X5_its : GoodIn wsX5_isGone wsX5_its := goodIn_r _ [5, 6, 7, 8, 9, 10, 11, 12, 13, 14, 15, 16, 17, 18, 19, 20, 21, 22, 23, 24, 25, 26, 27, 28, 29, 30, 31, 32, 33, 34, 35, 36] (by decide +kernel) (by decide +kernel)
set_option maxRecDepth 20000 in
theorem gX5_isGone_X5_its : GoodIn wsX5_isGone (wsV RX5 210 RX5 yX5_its wsX5_its) := goodIn_app (goodIn_of _ (by decide +kernel)) ggX5_isGone_X5_its
theorem dX5_isGone_0 : decode cX5_isGone 0 = .ok (.aload_n 0, 1) := by decide +kernel
theorem dX5_isGone_1 : decode cX5_isGone 1 = .ok (.iload_n 1, 1) := by decide +kernel
theorem dX5_isGone_2 : decode cX5_isGone 2 = .ok (.iconst 3, 1) := by decide +kernel
theorem dX5_isGone_3 : decode cX5_isGone 3 = .ok (.invokevirtual 210, 3) := by decide +kernel
theorem dX5_isGone_6 : decode cX5_isGone 6 = .ok (.bipush 10, 2) := by decide +kernel
theorem dX5_isGone_8 : decode cX5_isGone 8 = .ok (.if_icmp .ne 7, 3) := by decide +kernel
theorem dX5_isGone_11 : decode cX5_isGone 11 = .ok (.iconst 1, 1) := by decide +kernel
theorem dX5_isGone_12 : decode cX5_isGone 12 = .ok (.goto 4, 3) := by decide +kernel
theorem dX5_isGone_15 : decode cX5_isGone 15 = .ok (.iconst 0, 1) := by decide +kernel
theorem dX5_isGone_16 : decode cX5_isGone 16 = .ok (.ireturn, 1) := by decide +kernel
set_option maxRecDepth 20000 in
theorem ggX5_onWall_X5_its : GoodIn wsX5_onWall wsX5_its := goodIn_r _ [6, 1, 7, 8, 9, 10, 11, 12, 13, 14, 15, 16, 17, 18, 19, 20, 21, 22, 23, 24, 25, 26, 27, 28, 29, 30, 31, 32, 33, 34, 35, 36] (by decide +kernel) (by decide +kernel)
set_option maxRecDepth 20000 in
theorem gX5_onWall_X5_its : GoodIn wsX5_onWall (wsV RX5 210 RX5 yX5_its wsX5_its) := goodIn_app (goodIn_of _ (by decide +kernel)) ggX5_onWall_X5_its
theorem dX5_onWall_0 : decode cX5_onWall 0 = .ok (.iconst 0, 1) := by decide +kernel
theorem dX5_onWall_1 : decode cX5_onWall 1 = .ok (.istore_n 2, 1) := by decide +kernel
theorem dX5_onWall_2 : decode cX5_onWall 2 = .ok (.iconst 0, 1) := by decide +kernel
theorem dX5_onWall_3 : decode cX5_onWall 3 = .ok (.istore_n 3, 1) := by decide +kernel
theorem dX5_onWall_4 : decode cX5_onWall 4 = .ok (.iload_n 3, 1) := by decide +kernel
theorem dX5_onWall_5 : decode cX5_onWall 5 = .ok (.aload_n 0, 1) := by decide +kernel
theorem dX5_onWall_6 : decode cX5_onWall 6 = .ok (.getfield 7, 3) := by decide +kernel
theorem dX5_onWall_9 : decode cX5_onWall 9 = .ok (.bipush 6, 2) := by decide +kernel
theorem dX5_onWall_11 : decode cX5_onWall 11 = .ok (.iaload, 1) := by decide +kernel
theorem dX5_onWall_12 : decode cX5_onWall 12 = .ok (.if_icmp .ge 29, 3) := by decide +kernel
theorem dX5_onWall_15 : decode cX5_onWall 15 = .ok (.iload_n 2, 1) := by decide +kernel
theorem dX5_onWall_16 : decode cX5_onWall 16 = .ok (.aload_n 0, 1) := by decide +kernel
theorem dX5_onWall_17 : decode cX5_onWall 17 = .ok (.iload_n 3, 1) := by decide +kernel
theorem dX5_onWall_18 : decode cX5_onWall 18 = .ok (.iconst 3, 1) := by decide +kernel
theorem dX5_onWall_19 : decode cX5_onWall 19 = .ok (.invokevirtual 210, 3) := by decide +kernel
theorem dX5_onWall_22 : decode cX5_onWall 22 = .ok (.iload_n 1, 1) := by decide +kernel
theorem dX5_onWall_23 : decode cX5_onWall 23 = .ok (.if_icmp .ne 9, 3) := by decide +kernel
theorem dX5_onWall_26 : decode cX5_onWall 26 = .ok (.iconst 1, 1) := by decide +kernel
theorem dX5_onWall_27 : decode cX5_onWall 27 = .ok (.iload_n 3, 1) := by decide +kernel
theorem dX5_onWall_28 : decode cX5_onWall 28 = .ok (.ishl, 1) := by decide +kernel
theorem dX5_onWall_29 : decode cX5_onWall 29 = .ok (.goto 4, 3) := by decide +kernel
theorem dX5_onWall_32 : decode cX5_onWall 32 = .ok (.iconst 0, 1) := by decide +kernel
theorem dX5_onWall_33 : decode cX5_onWall 33 = .ok (.ior, 1) := by decide +kernel
theorem dX5_onWall_34 : decode cX5_onWall 34 = .ok (.istore_n 2, 1) := by decide +kernel
theorem dX5_onWall_35 : decode cX5_onWall 35 = .ok (.iinc 3 1, 3) := by decide +kernel
theorem dX5_onWall_38 : decode cX5_onWall 38 = .ok (.goto (-34), 3) := by decide +kernel
theorem dX5_onWall_41 : decode cX5_onWall 41 = .ok (.iload_n 2, 1) := by decide +kernel
theorem dX5_onWall_42 : decode cX5_onWall 42 = .ok (.ireturn, 1) := by decide +kernel
set_option maxRecDepth 20000 in
theorem ggX5_others_X5_its : GoodIn wsX5_others wsX5_its := goodIn_r _ [5, 6, 14, 15, 16, 17, 18, 19, 20, 21, 22, 23, 24, 25, 26, 27, 28, 29, 30, 31, 32, 33, 34, 35, 36, 37, 38, 39, 40, 41, 42, 43] (by decide +kernel) (by decide +kernel)
set_option maxRecDepth 20000 in
theorem gX5_others_X5_its : GoodIn wsX5_others (wsV RX5 210 RX5 yX5_its wsX5_its) := goodIn_app (goodIn_of _ (by decide +kernel)) ggX5_others_X5_its
set_option maxRecDepth 20000 in
theorem ggX5_others_X5_onWall : GoodIn wsX5_others wsX5_onWall := goodIn_r _ [10, 6, 1, 2, 3, 4, 5, 14, 15, 16, 17, 18, 19, 20, 21, 22, 23, 24, 25, 26, 27, 28, 29, 30, 31, 32, 33, 34, 35, 36, 37, 38, 39, 40, 41, 42, 43] (by decide +kernel) (by decide +kernel)
set_option maxRecDepth 20000 in
theorem gX5_others_X5_onWall : GoodIn wsX5_others (wsV RX5 213 RX5 yX5_onWall wsX5_onWall) := goodIn_app (goodIn_of _ (by decide +kernel)) ggX5_others_X5_onWall
set_option maxRecDepth 20000 in
theorem ggX5_others_X5_ones : GoodIn wsX5_others wsX5_ones := goodIn_r _ [13] (by decide +kernel) (by decide +kernel)
set_option maxRecDepth 20000 in
theorem gX5_others_X5_ones : GoodIn wsX5_others (va_wsS RX5 216 yX5_ones wsX5_ones) := goodIn_app (goodIn_of _ (by decide +kernel)) ggX5_others_X5_ones
theorem dX5_others_0 : decode cX5_others 0 = .ok (.aload_n 0, 1) := by decide +kernel
theorem dX5_others_1 : decode cX5_others 1 = .ok (.aload_n 0, 1) := by decide +kernel
theorem dX5_others_2 : decode cX5_others 2 = .ok (.iload_n 1, 1) := by decide +kernel
theorem dX5_others_3 : decode cX5_others 3 = .ok (.iconst 3, 1) := by decide +kernel
theorem dX5_others_4 : decode cX5_others 4 = .ok (.invokevirtual 210, 3) := by decide +kernel
theorem dX5_others_7 : decode cX5_others 7 = .ok (.invokevirtual 213, 3) := by decide +kernel
theorem dX5_others_10 : decode cX5_others 10 = .ok (.invokestatic 216, 3) := by decide +kernel
theorem dX5_others_13 : decode cX5_others 13 = .ok (.iconst 1, 1) := by decide +kernel
theorem dX5_others_14 : decode cX5_others 14 = .ok (.isub, 1) := by decide +kernel
theorem dX5_others_15 : decode cX5_others 15 = .ok (.ireturn, 1) := by decide +kernel
set_option maxRecDepth 20000 in
theorem ggX5_grows_X5_its : GoodIn wsX5_grows wsX5_its := goodIn_r _ [6, 1, 22, 23, 24, 25, 26, 27, 28, 29, 30, 31, 32, 33, 34, 35, 36, 37, 38, 39, 40, 41, 42, 43, 44, 45, 46, 47, 48, 49, 50, 51] (by decide +kernel) (by decide +kernel)
set_option maxRecDepth 20000 in
theorem gX5_grows_X5_its : GoodIn wsX5_grows (wsV RX5 210 RX5 yX5_its wsX5_its) := goodIn_app (goodIn_of _ (by decide +kernel)) ggX5_grows_X5_its
set_option maxRecDepth 20000 in
theorem ggX5_grows_X5_ground : GoodIn wsX5_grows wsX5_ground := goodIn_r _ [10, 1, 22, 23, 24, 25, 26, 27, 28, 29, 30, 31, 32, 33, 34, 35, 36, 37, 38, 39, 40, 41, 42, 43, 44, 45, 46, 47, 48, 49, 50, 51] (by decide +kernel) (by decide +kernel)
set_option maxRecDepth 20000 in
theorem gX5_grows_X5_ground : GoodIn wsX5_grows (wsV RX5 219 RX5 yX5_ground wsX5_ground) := goodIn_app (goodIn_of _ (by decide +kernel)) ggX5_grows_X5_ground
set_option maxRecDepth 20000 in
theorem ggX5_grows_X5_others : GoodIn wsX5_grows wsX5_others := goodIn_r _ [14, 2, 3, 4, 5, 6, 1, 15, 16, 17, 18, 19, 20, 21, 22, 23, 24, 25, 26, 27, 28, 29, 30, 31, 32, 33, 34, 35, 36, 37, 38, 39, 40, 41, 42, 43, 44, 45, 46, 47, 48, 49, 50, 51] (by decide +kernel) (by decide +kernel)
set_option maxRecDepth 20000 in
theorem gX5_grows_X5_others : GoodIn wsX5_grows (wsV RX5 222 RX5 yX5_others wsX5_others) := goodIn_app (goodIn_of _ (by decide +kernel)) ggX5_grows_X5_others
theorem dX5_grows_0 : decode cX5_grows 0 = .ok (.aload_n 0, 1) := by decide +kernel
theorem dX5_grows_1 : decode cX5_grows 1 = .ok (.aload_n 0, 1) := by decide +kernel
theorem dX5_grows_2 : decode cX5_grows 2 = .ok (.iload_n 1, 1) := by decide +kernel
theorem dX5_grows_3 : decode cX5_grows 3 = .ok (.iconst 3, 1) := by decide +kernel
theorem dX5_grows_4 : decode cX5_grows 4 = .ok (.invokevirtual 210, 3) := by decide +kernel
theorem dX5_grows_7 : decode cX5_grows 7 = .ok (.invokevirtual 219, 3) := by decide +kernel
theorem dX5_grows_10 : decode cX5_grows 10 = .ok (.iconst 1, 1) := by decide +kernel
theorem dX5_grows_11 : decode cX5_grows 11 = .ok (.if_icmp .ne 14, 3) := by decide +kernel
theorem dX5_grows_14 : decode cX5_grows 14 = .ok (.iconst 2, 1) := by decide +kernel
theorem dX5_grows_15 : decode cX5_grows 15 = .ok (.aload_n 0, 1) := by decide +kernel
theorem dX5_grows_16 : decode cX5_grows 16 = .ok (.getfield 7, 3) := by decide +kernel
theorem dX5_grows_19 : decode cX5_grows 19 = .ok (.iconst 1, 1) := by decide +kernel
theorem dX5_grows_20 : decode cX5_grows 20 = .ok (.iaload, 1) := by decide +kernel
theorem dX5_grows_21 : decode cX5_grows 21 = .ok (.iadd, 1) := by decide +kernel
theorem dX5_grows_22 : decode cX5_grows 22 = .ok (.goto 4, 3) := by decide +kernel
theorem dX5_grows_25 : decode cX5_grows 25 = .ok (.iconst 2, 1) := by decide +kernel
theorem dX5_grows_26 : decode cX5_grows 26 = .ok (.istore_n 2, 1) := by decide +kernel
theorem dX5_grows_27 : decode cX5_grows 27 = .ok (.aload_n 0, 1) := by decide +kernel
theorem dX5_grows_28 : decode cX5_grows 28 = .ok (.iload_n 1, 1) := by decide +kernel
theorem dX5_grows_29 : decode cX5_grows 29 = .ok (.iconst 0, 1) := by decide +kernel
theorem dX5_grows_30 : decode cX5_grows 30 = .ok (.invokevirtual 210, 3) := by decide +kernel
theorem dX5_grows_33 : decode cX5_grows 33 = .ok (.tableswitch 59 1 5 #[35, 41, 37, 49, 57], 35) := by decide +kernel
theorem dX5_grows_68 : decode cX5_grows 68 = .ok (.iload_n 2, 1) := by decide +kernel
theorem dX5_grows_69 : decode cX5_grows 69 = .ok (.ireturn, 1) := by decide +kernel
theorem dX5_grows_70 : decode cX5_grows 70 = .ok (.iconst 2, 1) := by decide +kernel
theorem dX5_grows_71 : decode cX5_grows 71 = .ok (.iload_n 2, 1) := by decide +kernel
theorem dX5_grows_72 : decode cX5_grows 72 = .ok (.imul, 1) := by decide +kernel
theorem dX5_grows_73 : decode cX5_grows 73 = .ok (.ireturn, 1) := by decide +kernel
theorem dX5_grows_74 : decode cX5_grows 74 = .ok (.iconst 2, 1) := by decide +kernel
theorem dX5_grows_75 : decode cX5_grows 75 = .ok (.aload_n 0, 1) := by decide +kernel
theorem dX5_grows_76 : decode cX5_grows 76 = .ok (.iload_n 1, 1) := by decide +kernel
theorem dX5_grows_77 : decode cX5_grows 77 = .ok (.invokevirtual 222, 3) := by decide +kernel
theorem dX5_grows_80 : decode cX5_grows 80 = .ok (.isub, 1) := by decide +kernel
theorem dX5_grows_81 : decode cX5_grows 81 = .ok (.ireturn, 1) := by decide +kernel
theorem dX5_grows_82 : decode cX5_grows 82 = .ok (.iconst 5, 1) := by decide +kernel
theorem dX5_grows_83 : decode cX5_grows 83 = .ok (.aload_n 0, 1) := by decide +kernel
theorem dX5_grows_84 : decode cX5_grows 84 = .ok (.iload_n 1, 1) := by decide +kernel
theorem dX5_grows_85 : decode cX5_grows 85 = .ok (.invokevirtual 222, 3) := by decide +kernel
theorem dX5_grows_88 : decode cX5_grows 88 = .ok (.isub, 1) := by decide +kernel
theorem dX5_grows_89 : decode cX5_grows 89 = .ok (.ireturn, 1) := by decide +kernel
theorem dX5_grows_90 : decode cX5_grows 90 = .ok (.iconst 0, 1) := by decide +kernel
theorem dX5_grows_91 : decode cX5_grows 91 = .ok (.ireturn, 1) := by decide +kernel
theorem dX5_grows_92 : decode cX5_grows 92 = .ok (.iconst 2, 1) := by decide +kernel
theorem dX5_grows_93 : decode cX5_grows 93 = .ok (.ireturn, 1) := by decide +kernel
set_option maxRecDepth 20000 in
theorem ggX5_holds_X5_its : GoodIn wsX5_holds wsX5_its := goodIn_r _ [6, 1, 18, 19, 20, 21, 22, 23, 24, 25, 26, 27, 28, 29, 30, 31, 32, 33, 34, 35, 36, 37, 38, 39, 40, 41, 42, 43, 44, 45, 46, 47] (by decide +kernel) (by decide +kernel)
set_option maxRecDepth 20000 in
theorem gX5_holds_X5_its : GoodIn wsX5_holds (wsV RX5 210 RX5 yX5_its wsX5_its) := goodIn_app (goodIn_of _ (by decide +kernel)) ggX5_holds_X5_its
set_option maxRecDepth 20000 in
theorem ggX5_holds_X5_others : GoodIn wsX5_holds wsX5_others := goodIn_r _ [10, 2, 3, 4, 5, 6, 1, 11, 12, 13, 14, 15, 16, 17, 18, 19, 20, 21, 22, 23, 24, 25, 26, 27, 28, 29, 30, 31, 32, 33, 34, 35, 36, 37, 38, 39, 40, 41, 42, 43, 44, 45, 46, 47] (by decide +kernel) (by decide +kernel)
set_option maxRecDepth 20000 in
theorem gX5_holds_X5_others : GoodIn wsX5_holds (wsV RX5 222 RX5 yX5_others wsX5_others) := goodIn_app (goodIn_of _ (by decide +kernel)) ggX5_holds_X5_others
theorem dX5_holds_0 : decode cX5_holds 0 = .ok (.aload_n 0, 1) := by decide +kernel
theorem dX5_holds_1 : decode cX5_holds 1 = .ok (.iload_n 1, 1) := by decide +kernel
theorem dX5_holds_2 : decode cX5_holds 2 = .ok (.iconst 2, 1) := by decide +kernel
theorem dX5_holds_3 : decode cX5_holds 3 = .ok (.invokevirtual 210, 3) := by decide +kernel
theorem dX5_holds_6 : decode cX5_holds 6 = .ok (.iconst 2, 1) := by decide +kernel
theorem dX5_holds_7 : decode cX5_holds 7 = .ok (.idiv, 1) := by decide +kernel
theorem dX5_holds_8 : decode cX5_holds 8 = .ok (.istore_n 2, 1) := by decide +kernel
theorem dX5_holds_9 : decode cX5_holds 9 = .ok (.aload_n 0, 1) := by decide +kernel
theorem dX5_holds_10 : decode cX5_holds 10 = .ok (.iload_n 1, 1) := by decide +kernel
theorem dX5_holds_11 : decode cX5_holds 11 = .ok (.iconst 0, 1) := by decide +kernel
theorem dX5_holds_12 : decode cX5_holds 12 = .ok (.invokevirtual 210, 3) := by decide +kernel
theorem dX5_holds_15 : decode cX5_holds 15 = .ok (.tableswitch 75 1 5 #[33, 58, 42, 62, 72], 33) := by decide +kernel
theorem dX5_holds_48 : decode cX5_holds 48 = .ok (.iload_n 2, 1) := by decide +kernel
theorem dX5_holds_49 : decode cX5_holds 49 = .ok (.aload_n 0, 1) := by decide +kernel
theorem dX5_holds_50 : decode cX5_holds 50 = .ok (.getfield 7, 3) := by decide +kernel
theorem dX5_holds_53 : decode cX5_holds 53 = .ok (.iconst 1, 1) := by decide +kernel
theorem dX5_holds_54 : decode cX5_holds 54 = .ok (.iaload, 1) := by decide +kernel
theorem dX5_holds_55 : decode cX5_holds 55 = .ok (.isub, 1) := by decide +kernel
theorem dX5_holds_56 : decode cX5_holds 56 = .ok (.ireturn, 1) := by decide +kernel
theorem dX5_holds_57 : decode cX5_holds 57 = .ok (.iload_n 2, 1) := by decide +kernel
theorem dX5_holds_58 : decode cX5_holds 58 = .ok (.aload_n 0, 1) := by decide +kernel
theorem dX5_holds_59 : decode cX5_holds 59 = .ok (.getfield 7, 3) := by decide +kernel
theorem dX5_holds_62 : decode cX5_holds 62 = .ok (.iconst 1, 1) := by decide +kernel
theorem dX5_holds_63 : decode cX5_holds 63 = .ok (.iaload, 1) := by decide +kernel
theorem dX5_holds_64 : decode cX5_holds 64 = .ok (.isub, 1) := by decide +kernel
theorem dX5_holds_65 : decode cX5_holds 65 = .ok (.aload_n 0, 1) := by decide +kernel
theorem dX5_holds_66 : decode cX5_holds 66 = .ok (.iload_n 1, 1) := by decide +kernel
theorem dX5_holds_67 : decode cX5_holds 67 = .ok (.iconst 1, 1) := by decide +kernel
theorem dX5_holds_68 : decode cX5_holds 68 = .ok (.invokevirtual 210, 3) := by decide +kernel
theorem dX5_holds_71 : decode cX5_holds 71 = .ok (.iadd, 1) := by decide +kernel
theorem dX5_holds_72 : decode cX5_holds 72 = .ok (.ireturn, 1) := by decide +kernel
theorem dX5_holds_73 : decode cX5_holds 73 = .ok (.iload_n 2, 1) := by decide +kernel
theorem dX5_holds_74 : decode cX5_holds 74 = .ok (.iconst 5, 1) := by decide +kernel
theorem dX5_holds_75 : decode cX5_holds 75 = .ok (.iadd, 1) := by decide +kernel
theorem dX5_holds_76 : decode cX5_holds 76 = .ok (.ireturn, 1) := by decide +kernel
theorem dX5_holds_77 : decode cX5_holds 77 = .ok (.iload_n 2, 1) := by decide +kernel
theorem dX5_holds_78 : decode cX5_holds 78 = .ok (.iconst 5, 1) := by decide +kernel
theorem dX5_holds_79 : decode cX5_holds 79 = .ok (.iadd, 1) := by decide +kernel
theorem dX5_holds_80 : decode cX5_holds 80 = .ok (.aload_n 0, 1) := by decide +kernel
theorem dX5_holds_81 : decode cX5_holds 81 = .ok (.iload_n 1, 1) := by decide +kernel
theorem dX5_holds_82 : decode cX5_holds 82 = .ok (.invokevirtual 222, 3) := by decide +kernel
theorem dX5_holds_85 : decode cX5_holds 85 = .ok (.iadd, 1) := by decide +kernel
theorem dX5_holds_86 : decode cX5_holds 86 = .ok (.ireturn, 1) := by decide +kernel
theorem dX5_holds_87 : decode cX5_holds 87 = .ok (.bipush 99, 2) := by decide +kernel
theorem dX5_holds_89 : decode cX5_holds 89 = .ok (.ireturn, 1) := by decide +kernel
theorem dX5_holds_90 : decode cX5_holds 90 = .ok (.iload_n 2, 1) := by decide +kernel
theorem dX5_holds_91 : decode cX5_holds 91 = .ok (.ireturn, 1) := by decide +kernel
set_option maxRecDepth 20000 in
theorem ggX5_back_X5_its : GoodIn wsX5_back wsX5_its := goodIn_r _ [5, 6, 7, 8, 9, 10, 11, 12, 13, 14, 15, 16, 17, 18, 19, 20, 21, 22, 23, 24, 25, 26, 27, 28, 29, 30, 31, 32, 33, 34, 35, 36] (by decide +kernel) (by decide +kernel)
set_option maxRecDepth 20000 in
theorem gX5_back_X5_its : GoodIn wsX5_back (wsV RX5 210 RX5 yX5_its wsX5_its) := goodIn_app (goodIn_of _ (by decide +kernel)) ggX5_back_X5_its
theorem dX5_back_0 : decode cX5_back 0 = .ok (.aload_n 0, 1) := by decide +kernel
theorem dX5_back_1 : decode cX5_back 1 = .ok (.iload_n 1, 1) := by decide +kernel
theorem dX5_back_2 : decode cX5_back 2 = .ok (.iconst 0, 1) := by decide +kernel
theorem dX5_back_3 : decode cX5_back 3 = .ok (.invokevirtual 210, 3) := by decide +kernel
theorem dX5_back_6 : decode cX5_back 6 = .ok (.tableswitch 59 1 5 #[34, 36, 34, 45, 56], 34) := by decide +kernel
theorem dX5_back_40 : decode cX5_back 40 = .ok (.iconst 1, 1) := by decide +kernel
theorem dX5_back_41 : decode cX5_back 41 = .ok (.ireturn, 1) := by decide +kernel
theorem dX5_back_42 : decode cX5_back 42 = .ok (.iconst 3, 1) := by decide +kernel
theorem dX5_back_43 : decode cX5_back 43 = .ok (.aload_n 0, 1) := by decide +kernel
theorem dX5_back_44 : decode cX5_back 44 = .ok (.iload_n 1, 1) := by decide +kernel
theorem dX5_back_45 : decode cX5_back 45 = .ok (.iconst 1, 1) := by decide +kernel
theorem dX5_back_46 : decode cX5_back 46 = .ok (.invokevirtual 210, 3) := by decide +kernel
theorem dX5_back_49 : decode cX5_back 49 = .ok (.iadd, 1) := by decide +kernel
theorem dX5_back_50 : decode cX5_back 50 = .ok (.ireturn, 1) := by decide +kernel
theorem dX5_back_51 : decode cX5_back 51 = .ok (.iconst 3, 1) := by decide +kernel
theorem dX5_back_52 : decode cX5_back 52 = .ok (.aload_n 0, 1) := by decide +kernel
theorem dX5_back_53 : decode cX5_back 53 = .ok (.iload_n 1, 1) := by decide +kernel
theorem dX5_back_54 : decode cX5_back 54 = .ok (.iconst 1, 1) := by decide +kernel
theorem dX5_back_55 : decode cX5_back 55 = .ok (.invokevirtual 210, 3) := by decide +kernel
theorem dX5_back_58 : decode cX5_back 58 = .ok (.iadd, 1) := by decide +kernel
theorem dX5_back_59 : decode cX5_back 59 = .ok (.iconst 2, 1) := by decide +kernel
theorem dX5_back_60 : decode cX5_back 60 = .ok (.idiv, 1) := by decide +kernel
theorem dX5_back_61 : decode cX5_back 61 = .ok (.ireturn, 1) := by decide +kernel
theorem dX5_back_62 : decode cX5_back 62 = .ok (.bipush 9, 2) := by decide +kernel
theorem dX5_back_64 : decode cX5_back 64 = .ok (.ireturn, 1) := by decide +kernel
theorem dX5_back_65 : decode cX5_back 65 = .ok (.iconst 3, 1) := by decide +kernel
theorem dX5_back_66 : decode cX5_back 66 = .ok (.ireturn, 1) := by decide +kernel
set_option maxRecDepth 20000 in
theorem ggX5_does_X5_isOne : GoodIn wsX5_does wsX5_isOne := goodIn_r _ [5, 6, 7, 8, 4, 9, 45, 46, 47, 48, 49, 50, 51, 52, 53, 54, 55, 56, 57, 58, 59, 60, 61, 62, 63, 64, 65, 66, 67, 68, 69, 70, 71, 72, 73, 74] (by decide +kernel) (by decide +kernel)
set_option maxRecDepth 20000 in
theorem gX5_does_X5_isOne : GoodIn wsX5_does (wsV RX5 207 RX5 yX5_isOne wsX5_isOne) := goodIn_app (goodIn_of _ (by decide +kernel)) ggX5_does_X5_isOne
set_option maxRecDepth 20000 in
theorem ggX5_does_X5_in : GoodIn wsX5_does wsX5_in := goodIn_r _ [9] (by decide +kernel) (by decide +kernel)
set_option maxRecDepth 20000 in
theorem gX5_does_X5_in : GoodIn wsX5_does (va_wsS RX5 60 yX5_in wsX5_in) := goodIn_app (goodIn_of _ (by decide +kernel)) ggX5_does_X5_in
set_option maxRecDepth 20000 in
theorem ggX5_does_X5_back : GoodIn wsX5_does wsX5_back := goodIn_r _ [13, 14, 15, 16, 4, 17, 6, 45, 46, 47, 48, 49, 50, 51, 52, 53, 54, 55, 56, 57, 58, 59, 60, 61, 62, 63, 64, 65, 66, 67, 68, 69, 70, 71, 72, 73, 74] (by decide +kernel) (by decide +kernel)
set_option maxRecDepth 20000 in
theorem gX5_does_X5_back : GoodIn wsX5_does (wsV RX5 225 RX5 yX5_back wsX5_back) := goodIn_app (goodIn_of _ (by decide +kernel)) ggX5_does_X5_back
set_option maxRecDepth 20000 in
theorem ggX5_does_X5_isGone : GoodIn wsX5_does wsX5_isGone := goodIn_r _ [21, 14, 15, 16, 4, 17, 6, 45, 46, 47, 48, 49, 50, 51, 52, 53, 54, 55, 56, 57, 58, 59, 60, 61, 62, 63, 64, 65, 66, 67, 68, 69, 70, 71, 72, 73, 74] (by decide +kernel) (by decide +kernel)
set_option maxRecDepth 20000 in
theorem gX5_does_X5_isGone : GoodIn wsX5_does (wsV RX5 228 RX5 yX5_isGone wsX5_isGone) := goodIn_app (goodIn_of _ (by decide +kernel)) ggX5_does_X5_isGone
set_option maxRecDepth 20000 in
theorem ggX5_does_X5_grows : GoodIn wsX5_does wsX5_grows := goodIn_r _ [25, 6, 14, 15, 16, 4, 17, 26, 27, 28, 29, 30, 31, 32, 33, 34, 35, 36, 37, 38, 39, 40, 45, 46, 47, 48, 49, 50, 51, 52, 53, 54, 55, 56, 57, 58, 59, 60, 61, 62, 63, 64, 65, 66, 67, 68, 69, 70, 71, 72, 73, 74] (by decide +kernel) (by decide +kernel)
set_option maxRecDepth 20000 in
theorem gX5_does_X5_grows : GoodIn wsX5_does (wsV RX5 231 RX5 yX5_grows wsX5_grows) := goodIn_app (goodIn_of _ (by decide +kernel)) ggX5_does_X5_grows
set_option maxRecDepth 20000 in
theorem ggX5_does_X5_holds : GoodIn wsX5_does wsX5_holds := goodIn_r _ [44, 6, 14, 15, 16, 4, 17, 30, 31, 32, 33, 34, 35, 36, 37, 38, 39, 40, 45, 46, 47, 48, 49, 50, 51, 52, 53, 54, 55, 56, 57, 58, 59, 60, 61, 62, 63, 64, 65, 66, 67, 68, 69, 70, 71, 72, 73, 74] (by decide +kernel) (by decide +kernel)
set_option maxRecDepth 20000 in
theorem gX5_does_X5_holds : GoodIn wsX5_does (wsV RX5 234 RX5 yX5_holds wsX5_holds) := goodIn_app (goodIn_of _ (by decide +kernel)) ggX5_does_X5_holds
theorem dX5_does_0 : decode cX5_does 0 = .ok (.aload_n 0, 1) := by decide +kernel
theorem dX5_does_1 : decode cX5_does 1 = .ok (.iload_n 1, 1) := by decide +kernel
theorem dX5_does_2 : decode cX5_does 2 = .ok (.invokevirtual 207, 3) := by decide +kernel
theorem dX5_does_5 : decode cX5_does 5 = .ok (.ifCond .eq 12, 3) := by decide +kernel
theorem dX5_does_8 : decode cX5_does 8 = .ok (.iload_n 2, 1) := by decide +kernel
theorem dX5_does_9 : decode cX5_does 9 = .ok (.iconst 0, 1) := by decide +kernel
theorem dX5_does_10 : decode cX5_does 10 = .ok (.iconst 2, 1) := by decide +kernel
theorem dX5_does_11 : decode cX5_does 11 = .ok (.invokestatic 60, 3) := by decide +kernel
theorem dX5_does_14 : decode cX5_does 14 = .ok (.ifCond .ne 5, 3) := by decide +kernel
theorem dX5_does_17 : decode cX5_does 17 = .ok (.iconst (-1), 1) := by decide +kernel
theorem dX5_does_18 : decode cX5_does 18 = .ok (.ireturn, 1) := by decide +kernel
theorem dX5_does_19 : decode cX5_does 19 = .ok (.iload_n 2, 1) := by decide +kernel
theorem dX5_does_20 : decode cX5_does 20 = .ok (.iconst 2, 1) := by decide +kernel
theorem dX5_does_21 : decode cX5_does 21 = .ok (.if_icmp .ne 13, 3) := by decide +kernel
theorem dX5_does_24 : decode cX5_does 24 = .ok (.sipush 1000, 3) := by decide +kernel
theorem dX5_does_27 : decode cX5_does 27 = .ok (.aload_n 0, 1) := by decide +kernel
theorem dX5_does_28 : decode cX5_does 28 = .ok (.iload_n 1, 1) := by decide +kernel
theorem dX5_does_29 : decode cX5_does 29 = .ok (.invokevirtual 225, 3) := by decide +kernel
theorem dX5_does_32 : decode cX5_does 32 = .ok (.iadd, 1) := by decide +kernel
theorem dX5_does_33 : decode cX5_does 33 = .ok (.ireturn, 1) := by decide +kernel
theorem dX5_does_34 : decode cX5_does 34 = .ok (.aload_n 0, 1) := by decide +kernel
theorem dX5_does_35 : decode cX5_does 35 = .ok (.iload_n 1, 1) := by decide +kernel
theorem dX5_does_36 : decode cX5_does 36 = .ok (.invokevirtual 228, 3) := by decide +kernel
theorem dX5_does_39 : decode cX5_does 39 = .ok (.ifCond .eq 8, 3) := by decide +kernel
theorem dX5_does_42 : decode cX5_does 42 = .ok (.bipush (-3), 2) := by decide +kernel
theorem dX5_does_44 : decode cX5_does 44 = .ok (.goto 24, 3) := by decide +kernel
theorem dX5_does_47 : decode cX5_does 47 = .ok (.sipush 1000, 3) := by decide +kernel
theorem dX5_does_50 : decode cX5_does 50 = .ok (.iload_n 2, 1) := by decide +kernel
theorem dX5_does_51 : decode cX5_does 51 = .ok (.ifCond .ne 11, 3) := by decide +kernel
theorem dX5_does_54 : decode cX5_does 54 = .ok (.aload_n 0, 1) := by decide +kernel
theorem dX5_does_55 : decode cX5_does 55 = .ok (.iload_n 1, 1) := by decide +kernel
theorem dX5_does_56 : decode cX5_does 56 = .ok (.invokevirtual 231, 3) := by decide +kernel
theorem dX5_does_59 : decode cX5_does 59 = .ok (.goto 8, 3) := by decide +kernel
theorem dX5_does_62 : decode cX5_does 62 = .ok (.aload_n 0, 1) := by decide +kernel
theorem dX5_does_63 : decode cX5_does 63 = .ok (.iload_n 1, 1) := by decide +kernel
theorem dX5_does_64 : decode cX5_does 64 = .ok (.invokevirtual 234, 3) := by decide +kernel
theorem dX5_does_67 : decode cX5_does 67 = .ok (.iadd, 1) := by decide +kernel
theorem dX5_does_68 : decode cX5_does 68 = .ok (.ireturn, 1) := by decide +kernel
set_option maxRecDepth 20000 in
theorem ggX5_mind_X5_isOne : GoodIn wsX5_mind wsX5_isOne := goodIn_r _ [5, 6, 7, 8, 4, 9, 21, 22, 23, 24, 25, 26, 27, 28, 29, 30, 31, 32, 33, 34, 35, 36, 37, 38, 39, 40, 41, 42, 43, 44, 45, 46, 47, 48, 49, 50] (by decide +kernel) (by decide +kernel)
set_option maxRecDepth 20000 in
theorem gX5_mind_X5_isOne : GoodIn wsX5_mind (wsV RX5 207 RX5 yX5_isOne wsX5_isOne) := goodIn_app (goodIn_of _ (by decide +kernel)) ggX5_mind_X5_isOne
set_option maxRecDepth 20000 in
theorem ggX5_mind_X5_isKind : GoodIn wsX5_mind wsX5_isKind := goodIn_r _ [12, 7, 8, 4, 9] (by decide +kernel) (by decide +kernel)
set_option maxRecDepth 20000 in
theorem gX5_mind_X5_isKind : GoodIn wsX5_mind (va_wsS RX5 196 yX5_isKind wsX5_isKind) := goodIn_app (goodIn_of _ (by decide +kernel)) ggX5_mind_X5_isKind
set_option maxRecDepth 20000 in
theorem ggX5_mind_X5_sets : GoodIn wsX5_mind wsX5_sets := goodIn_r _ [16, 6, 21, 22, 23, 24, 25, 26, 27, 28, 29, 30, 31, 32, 33, 34, 35, 36, 37, 38, 39, 40, 41, 42, 43, 44, 45, 46, 47, 48, 49, 50] (by decide +kernel) (by decide +kernel)
set_option maxRecDepth 20000 in
theorem gX5_mind_X5_sets : GoodIn wsX5_mind (wsV RX5 203 RX5 yX5_sets wsX5_sets) := goodIn_app (goodIn_of _ (by decide +kernel)) ggX5_mind_X5_sets
set_option maxRecDepth 20000 in
theorem ggX5_mind_X5_becomes : GoodIn wsX5_mind wsX5_becomes := goodIn_r _ [20, 6, 21, 22, 23, 24, 25, 26, 27, 28, 29, 30, 31, 32, 33, 34, 35, 36, 37, 38, 39, 40, 41, 42, 43, 44, 45, 46, 47, 48, 49, 50] (by decide +kernel) (by decide +kernel)
set_option maxRecDepth 20000 in
theorem gX5_mind_X5_becomes : GoodIn wsX5_mind (wsV RX5 193 RX5 yX5_becomes wsX5_becomes) := goodIn_app (goodIn_of _ (by decide +kernel)) ggX5_mind_X5_becomes
theorem dX5_mind_0 : decode cX5_mind 0 = .ok (.aload_n 0, 1) := by decide +kernel
theorem dX5_mind_1 : decode cX5_mind 1 = .ok (.iload_n 1, 1) := by decide +kernel
theorem dX5_mind_2 : decode cX5_mind 2 = .ok (.invokevirtual 207, 3) := by decide +kernel
theorem dX5_mind_5 : decode cX5_mind 5 = .ok (.ifCond .eq 11, 3) := by decide +kernel
theorem dX5_mind_8 : decode cX5_mind 8 = .ok (.iload_n 2, 1) := by decide +kernel
theorem dX5_mind_9 : decode cX5_mind 9 = .ok (.iload_n 3, 1) := by decide +kernel
theorem dX5_mind_10 : decode cX5_mind 10 = .ok (.invokestatic 196, 3) := by decide +kernel
theorem dX5_mind_13 : decode cX5_mind 13 = .ok (.ifCond .ne 5, 3) := by decide +kernel
theorem dX5_mind_16 : decode cX5_mind 16 = .ok (.iconst (-1), 1) := by decide +kernel
theorem dX5_mind_17 : decode cX5_mind 17 = .ok (.ireturn, 1) := by decide +kernel
theorem dX5_mind_18 : decode cX5_mind 18 = .ok (.aload_n 0, 1) := by decide +kernel
theorem dX5_mind_19 : decode cX5_mind 19 = .ok (.iload_n 1, 1) := by decide +kernel
theorem dX5_mind_20 : decode cX5_mind 20 = .ok (.iconst 1, 1) := by decide +kernel
theorem dX5_mind_21 : decode cX5_mind 21 = .ok (.iload_n 3, 1) := by decide +kernel
theorem dX5_mind_22 : decode cX5_mind 22 = .ok (.invokevirtual 203, 3) := by decide +kernel
theorem dX5_mind_25 : decode cX5_mind 25 = .ok (.aload_n 0, 1) := by decide +kernel
theorem dX5_mind_26 : decode cX5_mind 26 = .ok (.bipush 28, 2) := by decide +kernel
theorem dX5_mind_28 : decode cX5_mind 28 = .ok (.iconst 5, 1) := by decide +kernel
theorem dX5_mind_29 : decode cX5_mind 29 = .ok (.iload_n 1, 1) := by decide +kernel
theorem dX5_mind_30 : decode cX5_mind 30 = .ok (.imul, 1) := by decide +kernel
theorem dX5_mind_31 : decode cX5_mind 31 = .ok (.iadd, 1) := by decide +kernel
theorem dX5_mind_32 : decode cX5_mind 32 = .ok (.iload_n 2, 1) := by decide +kernel
theorem dX5_mind_33 : decode cX5_mind 33 = .ok (.invokevirtual 193, 3) := by decide +kernel
theorem dX5_mind_36 : decode cX5_mind 36 = .ok (.ireturn, 1) := by decide +kernel
set_option maxRecDepth 20000 in
theorem ggX5_paint_X5_isOne : GoodIn wsX5_paint wsX5_isOne := goodIn_r _ [5, 6, 7, 8, 4, 9, 14, 15, 16, 17, 18, 19, 20, 21, 22, 23, 24, 25, 26, 27, 28, 29, 30, 31, 32, 33, 34, 35, 36, 37, 38, 39, 40, 41, 42, 43] (by decide +kernel) (by decide +kernel)
set_option maxRecDepth 20000 in
theorem gX5_paint_X5_isOne : GoodIn wsX5_paint (wsV RX5 207 RX5 yX5_isOne wsX5_isOne) := goodIn_app (goodIn_of _ (by decide +kernel)) ggX5_paint_X5_isOne
set_option maxRecDepth 20000 in
theorem ggX5_paint_X5_in : GoodIn wsX5_paint wsX5_in := goodIn_r _ [9] (by decide +kernel) (by decide +kernel)
set_option maxRecDepth 20000 in
theorem gX5_paint_X5_in : GoodIn wsX5_paint (va_wsS RX5 60 yX5_in wsX5_in) := goodIn_app (goodIn_of _ (by decide +kernel)) ggX5_paint_X5_in
set_option maxRecDepth 20000 in
theorem ggX5_paint_X5_becomes : GoodIn wsX5_paint wsX5_becomes := goodIn_r _ [13, 6, 14, 15, 16, 17, 18, 19, 20, 21, 22, 23, 24, 25, 26, 27, 28, 29, 30, 31, 32, 33, 34, 35, 36, 37, 38, 39, 40, 41, 42, 43] (by decide +kernel) (by decide +kernel)
set_option maxRecDepth 20000 in
theorem gX5_paint_X5_becomes : GoodIn wsX5_paint (wsV RX5 193 RX5 yX5_becomes wsX5_becomes) := goodIn_app (goodIn_of _ (by decide +kernel)) ggX5_paint_X5_becomes
theorem dX5_paint_0 : decode cX5_paint 0 = .ok (.aload_n 0, 1) := by decide +kernel
theorem dX5_paint_1 : decode cX5_paint 1 = .ok (.iload_n 1, 1) := by decide +kernel
theorem dX5_paint_2 : decode cX5_paint 2 = .ok (.invokevirtual 207, 3) := by decide +kernel
theorem dX5_paint_5 : decode cX5_paint 5 = .ok (.ifCond .eq 29, 3) := by decide +kernel
theorem dX5_paint_8 : decode cX5_paint 8 = .ok (.iload_n 2, 1) := by decide +kernel
theorem dX5_paint_9 : decode cX5_paint 9 = .ok (.iconst 0, 1) := by decide +kernel
theorem dX5_paint_10 : decode cX5_paint 10 = .ok (.bipush 99, 2) := by decide +kernel
theorem dX5_paint_12 : decode cX5_paint 12 = .ok (.invokestatic 60, 3) := by decide +kernel
theorem dX5_paint_15 : decode cX5_paint 15 = .ok (.ifCond .eq 19, 3) := by decide +kernel
theorem dX5_paint_18 : decode cX5_paint 18 = .ok (.aload_n 0, 1) := by decide +kernel
theorem dX5_paint_19 : decode cX5_paint 19 = .ok (.bipush 28, 2) := by decide +kernel
theorem dX5_paint_21 : decode cX5_paint 21 = .ok (.iconst 5, 1) := by decide +kernel
theorem dX5_paint_22 : decode cX5_paint 22 = .ok (.iload_n 1, 1) := by decide +kernel
theorem dX5_paint_23 : decode cX5_paint 23 = .ok (.imul, 1) := by decide +kernel
theorem dX5_paint_24 : decode cX5_paint 24 = .ok (.iadd, 1) := by decide +kernel
theorem dX5_paint_25 : decode cX5_paint 25 = .ok (.iconst 2, 1) := by decide +kernel
theorem dX5_paint_26 : decode cX5_paint 26 = .ok (.iadd, 1) := by decide +kernel
theorem dX5_paint_27 : decode cX5_paint 27 = .ok (.iload_n 2, 1) := by decide +kernel
theorem dX5_paint_28 : decode cX5_paint 28 = .ok (.invokevirtual 193, 3) := by decide +kernel
theorem dX5_paint_31 : decode cX5_paint 31 = .ok (.goto 4, 3) := by decide +kernel
theorem dX5_paint_34 : decode cX5_paint 34 = .ok (.iconst (-1), 1) := by decide +kernel
theorem dX5_paint_35 : decode cX5_paint 35 = .ok (.ireturn, 1) := by decide +kernel
set_option maxRecDepth 20000 in
theorem ggX5_move_X5_isOne : GoodIn wsX5_move wsX5_isOne := goodIn_r _ [5, 6, 7, 8, 4, 9, 18, 19, 20, 21, 22, 23, 24, 25, 26, 27, 28, 29, 30, 31, 32, 33, 34, 35, 36, 37, 38, 39, 40, 41, 42, 43, 44, 45, 46, 47] (by decide +kernel) (by decide +kernel)
set_option maxRecDepth 20000 in
theorem gX5_move_X5_isOne : GoodIn wsX5_move (wsV RX5 207 RX5 yX5_isOne wsX5_isOne) := goodIn_app (goodIn_of _ (by decide +kernel)) ggX5_move_X5_isOne
set_option maxRecDepth 20000 in
theorem ggX5_move_X5_in : GoodIn wsX5_move wsX5_in := goodIn_r _ [9] (by decide +kernel) (by decide +kernel)
set_option maxRecDepth 20000 in
theorem gX5_move_X5_in : GoodIn wsX5_move (va_wsS RX5 60 yX5_in wsX5_in) := goodIn_app (goodIn_of _ (by decide +kernel)) ggX5_move_X5_in
set_option maxRecDepth 20000 in
theorem ggX5_move_X5_sets : GoodIn wsX5_move wsX5_sets := goodIn_r _ [13, 6, 18, 19, 20, 21, 22, 23, 24, 25, 26, 27, 28, 29, 30, 31, 32, 33, 34, 35, 36, 37, 38, 39, 40, 41, 42, 43, 44, 45, 46, 47] (by decide +kernel) (by decide +kernel)
set_option maxRecDepth 20000 in
theorem gX5_move_X5_sets : GoodIn wsX5_move (wsV RX5 203 RX5 yX5_sets wsX5_sets) := goodIn_app (goodIn_of _ (by decide +kernel)) ggX5_move_X5_sets
set_option maxRecDepth 20000 in
theorem ggX5_move_X5_becomes : GoodIn wsX5_move wsX5_becomes := goodIn_r _ [17, 6, 18, 19, 20, 21, 22, 23, 24, 25, 26, 27, 28, 29, 30, 31, 32, 33, 34, 35, 36, 37, 38, 39, 40, 41, 42, 43, 44, 45, 46, 47] (by decide +kernel) (by decide +kernel)
set_option maxRecDepth 20000 in
theorem gX5_move_X5_becomes : GoodIn wsX5_move (wsV RX5 193 RX5 yX5_becomes wsX5_becomes) := goodIn_app (goodIn_of _ (by decide +kernel)) ggX5_move_X5_becomes
theorem dX5_move_0 : decode cX5_move 0 = .ok (.aload_n 0, 1) := by decide +kernel
theorem dX5_move_1 : decode cX5_move 1 = .ok (.iload_n 1, 1) := by decide +kernel
theorem dX5_move_2 : decode cX5_move 2 = .ok (.invokevirtual 207, 3) := by decide +kernel
theorem dX5_move_5 : decode cX5_move 5 = .ok (.ifCond .eq 13, 3) := by decide +kernel
theorem dX5_move_8 : decode cX5_move 8 = .ok (.iload_n 2, 1) := by decide +kernel
theorem dX5_move_9 : decode cX5_move 9 = .ok (.iconst 0, 1) := by decide +kernel
theorem dX5_move_10 : decode cX5_move 10 = .ok (.bipush 10, 2) := by decide +kernel
theorem dX5_move_12 : decode cX5_move 12 = .ok (.invokestatic 60, 3) := by decide +kernel
theorem dX5_move_15 : decode cX5_move 15 = .ok (.ifCond .ne 5, 3) := by decide +kernel
theorem dX5_move_18 : decode cX5_move 18 = .ok (.iconst (-1), 1) := by decide +kernel
theorem dX5_move_19 : decode cX5_move 19 = .ok (.ireturn, 1) := by decide +kernel
theorem dX5_move_20 : decode cX5_move 20 = .ok (.iload_n 2, 1) := by decide +kernel
theorem dX5_move_21 : decode cX5_move 21 = .ok (.bipush 10, 2) := by decide +kernel
theorem dX5_move_23 : decode cX5_move 23 = .ok (.if_icmp .ge 10, 3) := by decide +kernel
theorem dX5_move_26 : decode cX5_move 26 = .ok (.aload_n 0, 1) := by decide +kernel
theorem dX5_move_27 : decode cX5_move 27 = .ok (.iload_n 1, 1) := by decide +kernel
theorem dX5_move_28 : decode cX5_move 28 = .ok (.iconst 4, 1) := by decide +kernel
theorem dX5_move_29 : decode cX5_move 29 = .ok (.iconst 0, 1) := by decide +kernel
theorem dX5_move_30 : decode cX5_move 30 = .ok (.invokevirtual 203, 3) := by decide +kernel
theorem dX5_move_33 : decode cX5_move 33 = .ok (.aload_n 0, 1) := by decide +kernel
theorem dX5_move_34 : decode cX5_move 34 = .ok (.bipush 28, 2) := by decide +kernel
theorem dX5_move_36 : decode cX5_move 36 = .ok (.iconst 5, 1) := by decide +kernel
theorem dX5_move_37 : decode cX5_move 37 = .ok (.iload_n 1, 1) := by decide +kernel
theorem dX5_move_38 : decode cX5_move 38 = .ok (.imul, 1) := by decide +kernel
theorem dX5_move_39 : decode cX5_move 39 = .ok (.iadd, 1) := by decide +kernel
theorem dX5_move_40 : decode cX5_move 40 = .ok (.iconst 3, 1) := by decide +kernel
theorem dX5_move_41 : decode cX5_move 41 = .ok (.iadd, 1) := by decide +kernel
theorem dX5_move_42 : decode cX5_move 42 = .ok (.iload_n 2, 1) := by decide +kernel
theorem dX5_move_43 : decode cX5_move 43 = .ok (.invokevirtual 193, 3) := by decide +kernel
theorem dX5_move_46 : decode cX5_move 46 = .ok (.ireturn, 1) := by decide +kernel
set_option maxRecDepth 20000 in
theorem ggX5_wall_X5_isWall : GoodIn wsX5_wall wsX5_isWall := goodIn_r _ [4, 5, 6, 3, 7] (by decide +kernel) (by decide +kernel)
set_option maxRecDepth 20000 in
theorem gX5_wall_X5_isWall : GoodIn wsX5_wall (va_wsS RX5 200 yX5_isWall wsX5_isWall) := goodIn_app (goodIn_of _ (by decide +kernel)) ggX5_wall_X5_isWall
set_option maxRecDepth 20000 in
theorem ggX5_wall_X5_in : GoodIn wsX5_wall wsX5_in := goodIn_r _ [7] (by decide +kernel) (by decide +kernel)
set_option maxRecDepth 20000 in
theorem gX5_wall_X5_in : GoodIn wsX5_wall (va_wsS RX5 60 yX5_in wsX5_in) := goodIn_app (goodIn_of _ (by decide +kernel)) ggX5_wall_X5_in
set_option maxRecDepth 20000 in
theorem ggX5_wall_X5_becomes : GoodIn wsX5_wall wsX5_becomes := goodIn_r _ [11, 12, 13, 14, 15, 16, 17, 18, 19, 20, 21, 22, 23, 24, 25, 26, 27, 28, 29, 30, 31, 32, 33, 34, 35, 36, 37, 38, 39, 40, 41, 42] (by decide +kernel) (by decide +kernel)
set_option maxRecDepth 20000 in
theorem gX5_wall_X5_becomes : GoodIn wsX5_wall (wsV RX5 193 RX5 yX5_becomes wsX5_becomes) := goodIn_app (goodIn_of _ (by decide +kernel)) ggX5_wall_X5_becomes
theorem dX5_wall_0 : decode cX5_wall 0 = .ok (.iload_n 1, 1) := by decide +kernel
theorem dX5_wall_1 : decode cX5_wall 1 = .ok (.invokestatic 200, 3) := by decide +kernel
theorem dX5_wall_4 : decode cX5_wall 4 = .ok (.ifCond .eq 46, 3) := by decide +kernel
theorem dX5_wall_7 : decode cX5_wall 7 = .ok (.iload_n 2, 1) := by decide +kernel
theorem dX5_wall_8 : decode cX5_wall 8 = .ok (.iconst 0, 1) := by decide +kernel
theorem dX5_wall_9 : decode cX5_wall 9 = .ok (.iconst 1, 1) := by decide +kernel
theorem dX5_wall_10 : decode cX5_wall 10 = .ok (.invokestatic 60, 3) := by decide +kernel
theorem dX5_wall_13 : decode cX5_wall 13 = .ok (.ifCond .eq 37, 3) := by decide +kernel
theorem dX5_wall_16 : decode cX5_wall 16 = .ok (.iload_n 3, 1) := by decide +kernel
theorem dX5_wall_17 : decode cX5_wall 17 = .ok (.iconst 0, 1) := by decide +kernel
theorem dX5_wall_18 : decode cX5_wall 18 = .ok (.iload_n 2, 1) := by decide +kernel
theorem dX5_wall_19 : decode cX5_wall 19 = .ok (.ifCond .ne 7, 3) := by decide +kernel
theorem dX5_wall_22 : decode cX5_wall 22 = .ok (.iconst 2, 1) := by decide +kernel
theorem dX5_wall_23 : decode cX5_wall 23 = .ok (.goto 5, 3) := by decide +kernel
theorem dX5_wall_26 : decode cX5_wall 26 = .ok (.bipush 9, 2) := by decide +kernel
theorem dX5_wall_28 : decode cX5_wall 28 = .ok (.invokestatic 60, 3) := by decide +kernel
theorem dX5_wall_31 : decode cX5_wall 31 = .ok (.ifCond .eq 19, 3) := by decide +kernel
theorem dX5_wall_34 : decode cX5_wall 34 = .ok (.aload_n 0, 1) := by decide +kernel
theorem dX5_wall_35 : decode cX5_wall 35 = .ok (.bipush 8, 2) := by decide +kernel
theorem dX5_wall_37 : decode cX5_wall 37 = .ok (.iconst 2, 1) := by decide +kernel
theorem dX5_wall_38 : decode cX5_wall 38 = .ok (.iload_n 1, 1) := by decide +kernel
theorem dX5_wall_39 : decode cX5_wall 39 = .ok (.imul, 1) := by decide +kernel
theorem dX5_wall_40 : decode cX5_wall 40 = .ok (.iadd, 1) := by decide +kernel
theorem dX5_wall_41 : decode cX5_wall 41 = .ok (.iload_n 2, 1) := by decide +kernel
theorem dX5_wall_42 : decode cX5_wall 42 = .ok (.iadd, 1) := by decide +kernel
theorem dX5_wall_43 : decode cX5_wall 43 = .ok (.iload_n 3, 1) := by decide +kernel
theorem dX5_wall_44 : decode cX5_wall 44 = .ok (.invokevirtual 193, 3) := by decide +kernel
theorem dX5_wall_47 : decode cX5_wall 47 = .ok (.goto 4, 3) := by decide +kernel
theorem dX5_wall_50 : decode cX5_wall 50 = .ok (.iconst (-1), 1) := by decide +kernel
theorem dX5_wall_51 : decode cX5_wall 51 = .ok (.ireturn, 1) := by decide +kernel
set_option maxRecDepth 20000 in
theorem ggX5_looks_X5_its : GoodIn wsX5_looks wsX5_its := goodIn_r _ [6, 1, 7, 8, 9, 10, 11, 12, 13, 14, 15, 16, 17, 18, 19, 20, 21, 22, 23, 24, 25, 26, 27, 28, 29, 30, 31, 32, 33, 34, 35, 36] (by decide +kernel) (by decide +kernel)
set_option maxRecDepth 20000 in
theorem gX5_looks_X5_its : GoodIn wsX5_looks (wsV RX5 210 RX5 yX5_its wsX5_its) := goodIn_app (goodIn_of _ (by decide +kernel)) ggX5_looks_X5_its
theorem dX5_looks_0 : decode cX5_looks 0 = .ok (.iconst 0, 1) := by decide +kernel
theorem dX5_looks_1 : decode cX5_looks 1 = .ok (.istore_n 2, 1) := by decide +kernel
theorem dX5_looks_2 : decode cX5_looks 2 = .ok (.iconst 0, 1) := by decide +kernel
theorem dX5_looks_3 : decode cX5_looks 3 = .ok (.istore_n 3, 1) := by decide +kernel
theorem dX5_looks_4 : decode cX5_looks 4 = .ok (.iload_n 3, 1) := by decide +kernel
theorem dX5_looks_5 : decode cX5_looks 5 = .ok (.aload_n 0, 1) := by decide +kernel
theorem dX5_looks_6 : decode cX5_looks 6 = .ok (.getfield 7, 3) := by decide +kernel
theorem dX5_looks_9 : decode cX5_looks 9 = .ok (.bipush 6, 2) := by decide +kernel
theorem dX5_looks_11 : decode cX5_looks 11 = .ok (.iaload, 1) := by decide +kernel
theorem dX5_looks_12 : decode cX5_looks 12 = .ok (.if_icmp .ge 32, 3) := by decide +kernel
theorem dX5_looks_15 : decode cX5_looks 15 = .ok (.iload_n 2, 1) := by decide +kernel
theorem dX5_looks_16 : decode cX5_looks 16 = .ok (.aload_n 0, 1) := by decide +kernel
theorem dX5_looks_17 : decode cX5_looks 17 = .ok (.iload_n 3, 1) := by decide +kernel
theorem dX5_looks_18 : decode cX5_looks 18 = .ok (.iconst 3, 1) := by decide +kernel
theorem dX5_looks_19 : decode cX5_looks 19 = .ok (.invokevirtual 210, 3) := by decide +kernel
theorem dX5_looks_22 : decode cX5_looks 22 = .ok (.iload_n 1, 1) := by decide +kernel
theorem dX5_looks_23 : decode cX5_looks 23 = .ok (.if_icmp .ne 12, 3) := by decide +kernel
theorem dX5_looks_26 : decode cX5_looks 26 = .ok (.aload_n 0, 1) := by decide +kernel
theorem dX5_looks_27 : decode cX5_looks 27 = .ok (.iload_n 3, 1) := by decide +kernel
theorem dX5_looks_28 : decode cX5_looks 28 = .ok (.iconst 2, 1) := by decide +kernel
theorem dX5_looks_29 : decode cX5_looks 29 = .ok (.invokevirtual 210, 3) := by decide +kernel
theorem dX5_looks_32 : decode cX5_looks 32 = .ok (.goto 4, 3) := by decide +kernel
theorem dX5_looks_35 : decode cX5_looks 35 = .ok (.iconst 0, 1) := by decide +kernel
theorem dX5_looks_36 : decode cX5_looks 36 = .ok (.iadd, 1) := by decide +kernel
theorem dX5_looks_37 : decode cX5_looks 37 = .ok (.istore_n 2, 1) := by decide +kernel
theorem dX5_looks_38 : decode cX5_looks 38 = .ok (.iinc 3 1, 3) := by decide +kernel
theorem dX5_looks_41 : decode cX5_looks 41 = .ok (.goto (-37), 3) := by decide +kernel
theorem dX5_looks_44 : decode cX5_looks 44 = .ok (.iload_n 2, 1) := by decide +kernel
theorem dX5_looks_45 : decode cX5_looks 45 = .ok (.aload_n 0, 1) := by decide +kernel
theorem dX5_looks_46 : decode cX5_looks 46 = .ok (.getfield 7, 3) := by decide +kernel
theorem dX5_looks_49 : decode cX5_looks 49 = .ok (.bipush 8, 2) := by decide +kernel
theorem dX5_looks_51 : decode cX5_looks 51 = .ok (.iconst 2, 1) := by decide +kernel
theorem dX5_looks_52 : decode cX5_looks 52 = .ok (.iload_n 1, 1) := by decide +kernel
theorem dX5_looks_53 : decode cX5_looks 53 = .ok (.imul, 1) := by decide +kernel
theorem dX5_looks_54 : decode cX5_looks 54 = .ok (.iadd, 1) := by decide +kernel
theorem dX5_looks_55 : decode cX5_looks 55 = .ok (.iconst 1, 1) := by decide +kernel
theorem dX5_looks_56 : decode cX5_looks 56 = .ok (.iadd, 1) := by decide +kernel
theorem dX5_looks_57 : decode cX5_looks 57 = .ok (.iaload, 1) := by decide +kernel
theorem dX5_looks_58 : decode cX5_looks 58 = .ok (.imul, 1) := by decide +kernel
theorem dX5_looks_59 : decode cX5_looks 59 = .ok (.ireturn, 1) := by decide +kernel
set_option maxRecDepth 20000 in
theorem ggX5_looksOfAll_X5_looks : GoodIn wsX5_looksOfAll wsX5_looks := goodIn_r _ [5, 6, 7, 8, 9, 4, 10, 11, 12, 13, 14, 15, 16, 17, 18, 19, 20, 21, 22, 23, 24, 25, 26, 27, 28, 29, 30, 31, 32, 33, 34, 35, 36, 37, 38, 39, 40] (by decide +kernel) (by decide +kernel)
set_option maxRecDepth 20000 in
theorem gX5_looksOfAll_X5_looks : GoodIn wsX5_looksOfAll (wsV RX5 236 RX5 yX5_looks wsX5_looks) := goodIn_app (goodIn_of _ (by decide +kernel)) ggX5_looksOfAll_X5_looks
theorem dX5_looksOfAll_0 : decode cX5_looksOfAll 0 = .ok (.iconst 0, 1) := by decide +kernel
theorem dX5_looksOfAll_1 : decode cX5_looksOfAll 1 = .ok (.istore_n 1, 1) := by decide +kernel
theorem dX5_looksOfAll_2 : decode cX5_looksOfAll 2 = .ok (.iconst 0, 1) := by decide +kernel
theorem dX5_looksOfAll_3 : decode cX5_looksOfAll 3 = .ok (.istore_n 2, 1) := by decide +kernel
theorem dX5_looksOfAll_4 : decode cX5_looksOfAll 4 = .ok (.iload_n 2, 1) := by decide +kernel
theorem dX5_looksOfAll_5 : decode cX5_looksOfAll 5 = .ok (.bipush 10, 2) := by decide +kernel
theorem dX5_looksOfAll_7 : decode cX5_looksOfAll 7 = .ok (.if_icmp .ge 17, 3) := by decide +kernel
theorem dX5_looksOfAll_10 : decode cX5_looksOfAll 10 = .ok (.iload_n 1, 1) := by decide +kernel
theorem dX5_looksOfAll_11 : decode cX5_looksOfAll 11 = .ok (.aload_n 0, 1) := by decide +kernel
theorem dX5_looksOfAll_12 : decode cX5_looksOfAll 12 = .ok (.iload_n 2, 1) := by decide +kernel
theorem dX5_looksOfAll_13 : decode cX5_looksOfAll 13 = .ok (.invokevirtual 236, 3) := by decide +kernel
theorem dX5_looksOfAll_16 : decode cX5_looksOfAll 16 = .ok (.iadd, 1) := by decide +kernel
theorem dX5_looksOfAll_17 : decode cX5_looksOfAll 17 = .ok (.istore_n 1, 1) := by decide +kernel
theorem dX5_looksOfAll_18 : decode cX5_looksOfAll 18 = .ok (.iinc 2 1, 3) := by decide +kernel
theorem dX5_looksOfAll_21 : decode cX5_looksOfAll 21 = .ok (.goto (-17), 3) := by decide +kernel
theorem dX5_looksOfAll_24 : decode cX5_looksOfAll 24 = .ok (.iload_n 1, 1) := by decide +kernel
theorem dX5_looksOfAll_25 : decode cX5_looksOfAll 25 = .ok (.ireturn, 1) := by decide +kernel
set_option maxRecDepth 20000 in
theorem ggX5_wallOf_X5_isWall : GoodIn wsX5_wallOf wsX5_isWall := goodIn_r _ [5, 6, 7, 4, 8] (by decide +kernel) (by decide +kernel)
set_option maxRecDepth 20000 in
theorem gX5_wallOf_X5_isWall : GoodIn wsX5_wallOf (va_wsS RX5 200 yX5_isWall wsX5_isWall) := goodIn_app (goodIn_of _ (by decide +kernel)) ggX5_wallOf_X5_isWall
set_option maxRecDepth 20000 in
theorem ggX5_wallOf_X5_in : GoodIn wsX5_wallOf wsX5_in := goodIn_r _ [8] (by decide +kernel) (by decide +kernel)
set_option maxRecDepth 20000 in
theorem gX5_wallOf_X5_in : GoodIn wsX5_wallOf (va_wsS RX5 60 yX5_in wsX5_in) := goodIn_app (goodIn_of _ (by decide +kernel)) ggX5_wallOf_X5_in
set_option maxRecDepth 20000 in
theorem ggX5_wallOf_X5_looks : GoodIn wsX5_wallOf wsX5_looks := goodIn_r _ [12, 1, 13, 14, 15, 4, 16, 21, 22, 23, 24, 25, 26, 27, 28, 29, 30, 31, 32, 33, 34, 35, 36, 37, 38, 39, 40, 41, 42, 43, 44, 45, 46, 47, 48, 49, 50] (by decide +kernel) (by decide +kernel)
set_option maxRecDepth 20000 in
theorem gX5_wallOf_X5_looks : GoodIn wsX5_wallOf (wsV RX5 236 RX5 yX5_looks wsX5_looks) := goodIn_app (goodIn_of _ (by decide +kernel)) ggX5_wallOf_X5_looks
set_option maxRecDepth 20000 in
theorem ggX5_wallOf_X5_onWall : GoodIn wsX5_wallOf wsX5_onWall := goodIn_r _ [20, 1, 13, 14, 15, 4, 16, 21, 22, 23, 24, 25, 26, 27, 28, 29, 30, 31, 32, 33, 34, 35, 36, 37, 38, 39, 40, 41, 42, 43, 44, 45, 46, 47, 48, 49, 50] (by decide +kernel) (by decide +kernel)
set_option maxRecDepth 20000 in
theorem gX5_wallOf_X5_onWall : GoodIn wsX5_wallOf (wsV RX5 213 RX5 yX5_onWall wsX5_onWall) := goodIn_app (goodIn_of _ (by decide +kernel)) ggX5_wallOf_X5_onWall
theorem dX5_wallOf_0 : decode cX5_wallOf 0 = .ok (.iload_n 1, 1) := by decide +kernel
theorem dX5_wallOf_1 : decode cX5_wallOf 1 = .ok (.invokestatic 200, 3) := by decide +kernel
theorem dX5_wallOf_4 : decode cX5_wallOf 4 = .ok (.ifCond .eq 12, 3) := by decide +kernel
theorem dX5_wallOf_7 : decode cX5_wallOf 7 = .ok (.iload_n 2, 1) := by decide +kernel
theorem dX5_wallOf_8 : decode cX5_wallOf 8 = .ok (.iconst 0, 1) := by decide +kernel
theorem dX5_wallOf_9 : decode cX5_wallOf 9 = .ok (.iconst 3, 1) := by decide +kernel
theorem dX5_wallOf_10 : decode cX5_wallOf 10 = .ok (.invokestatic 60, 3) := by decide +kernel
theorem dX5_wallOf_13 : decode cX5_wallOf 13 = .ok (.ifCond .ne 5, 3) := by decide +kernel
theorem dX5_wallOf_16 : decode cX5_wallOf 16 = .ok (.iconst (-1), 1) := by decide +kernel
theorem dX5_wallOf_17 : decode cX5_wallOf 17 = .ok (.ireturn, 1) := by decide +kernel
theorem dX5_wallOf_18 : decode cX5_wallOf 18 = .ok (.iload_n 2, 1) := by decide +kernel
theorem dX5_wallOf_19 : decode cX5_wallOf 19 = .ok (.iconst 2, 1) := by decide +kernel
theorem dX5_wallOf_20 : decode cX5_wallOf 20 = .ok (.if_icmp .ge 19, 3) := by decide +kernel
theorem dX5_wallOf_23 : decode cX5_wallOf 23 = .ok (.aload_n 0, 1) := by decide +kernel
theorem dX5_wallOf_24 : decode cX5_wallOf 24 = .ok (.getfield 7, 3) := by decide +kernel
theorem dX5_wallOf_27 : decode cX5_wallOf 27 = .ok (.bipush 8, 2) := by decide +kernel
theorem dX5_wallOf_29 : decode cX5_wallOf 29 = .ok (.iconst 2, 1) := by decide +kernel
theorem dX5_wallOf_30 : decode cX5_wallOf 30 = .ok (.iload_n 1, 1) := by decide +kernel
theorem dX5_wallOf_31 : decode cX5_wallOf 31 = .ok (.imul, 1) := by decide +kernel
theorem dX5_wallOf_32 : decode cX5_wallOf 32 = .ok (.iadd, 1) := by decide +kernel
theorem dX5_wallOf_33 : decode cX5_wallOf 33 = .ok (.iload_n 2, 1) := by decide +kernel
theorem dX5_wallOf_34 : decode cX5_wallOf 34 = .ok (.iadd, 1) := by decide +kernel
theorem dX5_wallOf_35 : decode cX5_wallOf 35 = .ok (.iaload, 1) := by decide +kernel
theorem dX5_wallOf_36 : decode cX5_wallOf 36 = .ok (.goto 21, 3) := by decide +kernel
theorem dX5_wallOf_39 : decode cX5_wallOf 39 = .ok (.iload_n 2, 1) := by decide +kernel
theorem dX5_wallOf_40 : decode cX5_wallOf 40 = .ok (.iconst 2, 1) := by decide +kernel
theorem dX5_wallOf_41 : decode cX5_wallOf 41 = .ok (.if_icmp .ne 11, 3) := by decide +kernel
theorem dX5_wallOf_44 : decode cX5_wallOf 44 = .ok (.aload_n 0, 1) := by decide +kernel
theorem dX5_wallOf_45 : decode cX5_wallOf 45 = .ok (.iload_n 1, 1) := by decide +kernel
theorem dX5_wallOf_46 : decode cX5_wallOf 46 = .ok (.invokevirtual 236, 3) := by decide +kernel
theorem dX5_wallOf_49 : decode cX5_wallOf 49 = .ok (.goto 8, 3) := by decide +kernel
theorem dX5_wallOf_52 : decode cX5_wallOf 52 = .ok (.aload_n 0, 1) := by decide +kernel
theorem dX5_wallOf_53 : decode cX5_wallOf 53 = .ok (.iload_n 1, 1) := by decide +kernel
theorem dX5_wallOf_54 : decode cX5_wallOf 54 = .ok (.invokevirtual 213, 3) := by decide +kernel
theorem dX5_wallOf_57 : decode cX5_wallOf 57 = .ok (.ireturn, 1) := by decide +kernel
set_option maxRecDepth 20000 in
theorem ggX5_cleaned_X5_ground : GoodIn wsX5_cleaned wsX5_ground := goodIn_r _ [6, 1, 30, 31, 32, 33, 34, 35, 36, 37, 38, 39, 40, 41, 42, 43, 44, 45, 46, 47, 48, 49, 50, 51, 52, 53, 54, 55, 56, 57, 58, 59] (by decide +kernel) (by decide +kernel)
set_option maxRecDepth 20000 in
theorem gX5_cleaned_X5_ground : GoodIn wsX5_cleaned (wsV RX5 219 RX5 yX5_ground wsX5_ground) := goodIn_app (goodIn_of _ (by decide +kernel)) ggX5_cleaned_X5_ground
set_option maxRecDepth 20000 in
theorem ggX5_cleaned_X5_its : GoodIn wsX5_cleaned wsX5_its := goodIn_r _ [10, 1, 30, 31, 32, 33, 34, 35, 36, 37, 38, 39, 40, 41, 42, 43, 44, 45, 46, 47, 48, 49, 50, 51, 52, 53, 54, 55, 56, 57, 58, 59] (by decide +kernel) (by decide +kernel)
set_option maxRecDepth 20000 in
theorem gX5_cleaned_X5_its : GoodIn wsX5_cleaned (wsV RX5 210 RX5 yX5_its wsX5_its) := goodIn_app (goodIn_of _ (by decide +kernel)) ggX5_cleaned_X5_its
set_option maxRecDepth 20000 in
theorem ggX5_cleaned_X5_holds : GoodIn wsX5_cleaned wsX5_holds := goodIn_r _ [14, 1, 7, 8, 9, 5, 10, 15, 16, 17, 18, 19, 20, 21, 22, 23, 24, 25, 30, 31, 32, 33, 34, 35, 36, 37, 38, 39, 40, 41, 42, 43, 44, 45, 46, 47, 48, 49, 50, 51, 52, 53, 54, 55, 56, 57, 58, 59] (by decide +kernel) (by decide +kernel)
set_option maxRecDepth 20000 in
theorem gX5_cleaned_X5_holds : GoodIn wsX5_cleaned (wsV RX5 234 RX5 yX5_holds wsX5_holds) := goodIn_app (goodIn_of _ (by decide +kernel)) ggX5_cleaned_X5_holds
set_option maxRecDepth 20000 in
theorem ggX5_cleaned_X5_sets : GoodIn wsX5_cleaned wsX5_sets := goodIn_r _ [29, 1, 30, 31, 32, 33, 34, 35, 36, 37, 38, 39, 40, 41, 42, 43, 44, 45, 46, 47, 48, 49, 50, 51, 52, 53, 54, 55, 56, 57, 58, 59] (by decide +kernel) (by decide +kernel)
set_option maxRecDepth 20000 in
theorem gX5_cleaned_X5_sets : GoodIn wsX5_cleaned (wsV RX5 203 RX5 yX5_sets wsX5_sets) := goodIn_app (goodIn_of _ (by decide +kernel)) ggX5_cleaned_X5_sets
set_option maxRecDepth 20000 in
theorem ggX5_cleaned_X5_ones : GoodIn wsX5_cleaned wsX5_ones := goodIn_r _ [25] (by decide +kernel) (by decide +kernel)
set_option maxRecDepth 20000 in
theorem gX5_cleaned_X5_ones : GoodIn wsX5_cleaned (va_wsS RX5 216 yX5_ones wsX5_ones) := goodIn_app (goodIn_of _ (by decide +kernel)) ggX5_cleaned_X5_ones
theorem dX5_cleaned_0 : decode cX5_cleaned 0 = .ok (.aload_n 0, 1) := by decide +kernel
theorem dX5_cleaned_1 : decode cX5_cleaned 1 = .ok (.iload_n 1, 1) := by decide +kernel
theorem dX5_cleaned_2 : decode cX5_cleaned 2 = .ok (.invokevirtual 219, 3) := by decide +kernel
theorem dX5_cleaned_5 : decode cX5_cleaned 5 = .ok (.iconst 2, 1) := by decide +kernel
theorem dX5_cleaned_6 : decode cX5_cleaned 6 = .ok (.if_icmp .ne 7, 3) := by decide +kernel
theorem dX5_cleaned_9 : decode cX5_cleaned 9 = .ok (.iconst 1, 1) := by decide +kernel
theorem dX5_cleaned_10 : decode cX5_cleaned 10 = .ok (.goto 4, 3) := by decide +kernel
theorem dX5_cleaned_13 : decode cX5_cleaned 13 = .ok (.iconst 0, 1) := by decide +kernel
theorem dX5_cleaned_14 : decode cX5_cleaned 14 = .ok (.istore_n 2, 1) := by decide +kernel
theorem dX5_cleaned_15 : decode cX5_cleaned 15 = .ok (.iconst 0, 1) := by decide +kernel
theorem dX5_cleaned_16 : decode cX5_cleaned 16 = .ok (.istore_n 3, 1) := by decide +kernel
theorem dX5_cleaned_17 : decode cX5_cleaned 17 = .ok (.iconst 0, 1) := by decide +kernel
theorem dX5_cleaned_18 : decode cX5_cleaned 18 = .ok (.istore 4, 2) := by decide +kernel
theorem dX5_cleaned_20 : decode cX5_cleaned 20 = .ok (.iload 4, 2) := by decide +kernel
theorem dX5_cleaned_22 : decode cX5_cleaned 22 = .ok (.aload_n 0, 1) := by decide +kernel
theorem dX5_cleaned_23 : decode cX5_cleaned 23 = .ok (.getfield 7, 3) := by decide +kernel
theorem dX5_cleaned_26 : decode cX5_cleaned 26 = .ok (.bipush 6, 2) := by decide +kernel
theorem dX5_cleaned_28 : decode cX5_cleaned 28 = .ok (.iaload, 1) := by decide +kernel
theorem dX5_cleaned_29 : decode cX5_cleaned 29 = .ok (.if_icmp .ge 76, 3) := by decide +kernel
theorem dX5_cleaned_32 : decode cX5_cleaned 32 = .ok (.aload_n 0, 1) := by decide +kernel
theorem dX5_cleaned_33 : decode cX5_cleaned 33 = .ok (.iload 4, 2) := by decide +kernel
theorem dX5_cleaned_35 : decode cX5_cleaned 35 = .ok (.iconst 3, 1) := by decide +kernel
theorem dX5_cleaned_36 : decode cX5_cleaned 36 = .ok (.invokevirtual 210, 3) := by decide +kernel
theorem dX5_cleaned_39 : decode cX5_cleaned 39 = .ok (.iload_n 1, 1) := by decide +kernel
theorem dX5_cleaned_40 : decode cX5_cleaned 40 = .ok (.if_icmp .ne 40, 3) := by decide +kernel
theorem dX5_cleaned_43 : decode cX5_cleaned 43 = .ok (.iload_n 2, 1) := by decide +kernel
theorem dX5_cleaned_44 : decode cX5_cleaned 44 = .ok (.ifCond .eq 17, 3) := by decide +kernel
theorem dX5_cleaned_47 : decode cX5_cleaned 47 = .ok (.aload_n 0, 1) := by decide +kernel
theorem dX5_cleaned_48 : decode cX5_cleaned 48 = .ok (.iload 4, 2) := by decide +kernel
theorem dX5_cleaned_50 : decode cX5_cleaned 50 = .ok (.iconst 0, 1) := by decide +kernel
theorem dX5_cleaned_51 : decode cX5_cleaned 51 = .ok (.invokevirtual 210, 3) := by decide +kernel
theorem dX5_cleaned_54 : decode cX5_cleaned 54 = .ok (.iconst 5, 1) := by decide +kernel
theorem dX5_cleaned_55 : decode cX5_cleaned 55 = .ok (.if_icmp .eq 25, 3) := by decide +kernel
theorem dX5_cleaned_58 : decode cX5_cleaned 58 = .ok (.goto 18, 3) := by decide +kernel
theorem dX5_cleaned_61 : decode cX5_cleaned 61 = .ok (.aload_n 0, 1) := by decide +kernel
theorem dX5_cleaned_62 : decode cX5_cleaned 62 = .ok (.iload 4, 2) := by decide +kernel
theorem dX5_cleaned_64 : decode cX5_cleaned 64 = .ok (.invokevirtual 234, 3) := by decide +kernel
theorem dX5_cleaned_67 : decode cX5_cleaned 67 = .ok (.aload_n 0, 1) := by decide +kernel
theorem dX5_cleaned_68 : decode cX5_cleaned 68 = .ok (.getfield 7, 3) := by decide +kernel
theorem dX5_cleaned_71 : decode cX5_cleaned 71 = .ok (.iconst 2, 1) := by decide +kernel
theorem dX5_cleaned_72 : decode cX5_cleaned 72 = .ok (.iaload, 1) := by decide +kernel
theorem dX5_cleaned_73 : decode cX5_cleaned 73 = .ok (.if_icmp .gt 7, 3) := by decide +kernel
theorem dX5_cleaned_76 : decode cX5_cleaned 76 = .ok (.iconst 1, 1) := by decide +kernel
theorem dX5_cleaned_77 : decode cX5_cleaned 77 = .ok (.goto 4, 3) := by decide +kernel
theorem dX5_cleaned_80 : decode cX5_cleaned 80 = .ok (.iconst 0, 1) := by decide +kernel
theorem dX5_cleaned_81 : decode cX5_cleaned 81 = .ok (.istore 5, 2) := by decide +kernel
theorem dX5_cleaned_83 : decode cX5_cleaned 83 = .ok (.iload_n 3, 1) := by decide +kernel
theorem dX5_cleaned_84 : decode cX5_cleaned 84 = .ok (.iload 5, 2) := by decide +kernel
theorem dX5_cleaned_86 : decode cX5_cleaned 86 = .ok (.ifCond .eq 10, 3) := by decide +kernel
theorem dX5_cleaned_89 : decode cX5_cleaned 89 = .ok (.iconst 1, 1) := by decide +kernel
theorem dX5_cleaned_90 : decode cX5_cleaned 90 = .ok (.iload 4, 2) := by decide +kernel
theorem dX5_cleaned_92 : decode cX5_cleaned 92 = .ok (.ishl, 1) := by decide +kernel
theorem dX5_cleaned_93 : decode cX5_cleaned 93 = .ok (.goto 4, 3) := by decide +kernel
theorem dX5_cleaned_96 : decode cX5_cleaned 96 = .ok (.iconst 0, 1) := by decide +kernel
theorem dX5_cleaned_97 : decode cX5_cleaned 97 = .ok (.ior, 1) := by decide +kernel
theorem dX5_cleaned_98 : decode cX5_cleaned 98 = .ok (.istore_n 3, 1) := by decide +kernel
theorem dX5_cleaned_99 : decode cX5_cleaned 99 = .ok (.iinc 4 1, 3) := by decide +kernel
theorem dX5_cleaned_102 : decode cX5_cleaned 102 = .ok (.goto (-82), 3) := by decide +kernel
theorem dX5_cleaned_105 : decode cX5_cleaned 105 = .ok (.iconst 0, 1) := by decide +kernel
theorem dX5_cleaned_106 : decode cX5_cleaned 106 = .ok (.istore 4, 2) := by decide +kernel
theorem dX5_cleaned_108 : decode cX5_cleaned 108 = .ok (.iload 4, 2) := by decide +kernel
theorem dX5_cleaned_110 : decode cX5_cleaned 110 = .ok (.aload_n 0, 1) := by decide +kernel
theorem dX5_cleaned_111 : decode cX5_cleaned 111 = .ok (.getfield 7, 3) := by decide +kernel
theorem dX5_cleaned_114 : decode cX5_cleaned 114 = .ok (.bipush 6, 2) := by decide +kernel
theorem dX5_cleaned_116 : decode cX5_cleaned 116 = .ok (.iaload, 1) := by decide +kernel
theorem dX5_cleaned_117 : decode cX5_cleaned 117 = .ok (.if_icmp .ge 36, 3) := by decide +kernel
theorem dX5_cleaned_120 : decode cX5_cleaned 120 = .ok (.iload_n 3, 1) := by decide +kernel
theorem dX5_cleaned_121 : decode cX5_cleaned 121 = .ok (.iload 4, 2) := by decide +kernel
theorem dX5_cleaned_123 : decode cX5_cleaned 123 = .ok (.ishr, 1) := by decide +kernel
theorem dX5_cleaned_124 : decode cX5_cleaned 124 = .ok (.iconst 1, 1) := by decide +kernel
theorem dX5_cleaned_125 : decode cX5_cleaned 125 = .ok (.iand, 1) := by decide +kernel
theorem dX5_cleaned_126 : decode cX5_cleaned 126 = .ok (.iconst 1, 1) := by decide +kernel
theorem dX5_cleaned_127 : decode cX5_cleaned 127 = .ok (.if_icmp .ne 20, 3) := by decide +kernel
theorem dX5_cleaned_130 : decode cX5_cleaned 130 = .ok (.aload_n 0, 1) := by decide +kernel
theorem dX5_cleaned_131 : decode cX5_cleaned 131 = .ok (.iload 4, 2) := by decide +kernel
theorem dX5_cleaned_133 : decode cX5_cleaned 133 = .ok (.iconst 3, 1) := by decide +kernel
theorem dX5_cleaned_134 : decode cX5_cleaned 134 = .ok (.bipush 10, 2) := by decide +kernel
theorem dX5_cleaned_136 : decode cX5_cleaned 136 = .ok (.invokevirtual 203, 3) := by decide +kernel
theorem dX5_cleaned_139 : decode cX5_cleaned 139 = .ok (.aload_n 0, 1) := by decide +kernel
theorem dX5_cleaned_140 : decode cX5_cleaned 140 = .ok (.iload 4, 2) := by decide +kernel
theorem dX5_cleaned_142 : decode cX5_cleaned 142 = .ok (.iconst 4, 1) := by decide +kernel
theorem dX5_cleaned_143 : decode cX5_cleaned 143 = .ok (.iconst 0, 1) := by decide +kernel
theorem dX5_cleaned_144 : decode cX5_cleaned 144 = .ok (.invokevirtual 203, 3) := by decide +kernel
theorem dX5_cleaned_147 : decode cX5_cleaned 147 = .ok (.iinc 4 1, 3) := by decide +kernel
theorem dX5_cleaned_150 : decode cX5_cleaned 150 = .ok (.goto (-42), 3) := by decide +kernel
theorem dX5_cleaned_153 : decode cX5_cleaned 153 = .ok (.aload_n 0, 1) := by decide +kernel
theorem dX5_cleaned_154 : decode cX5_cleaned 154 = .ok (.getfield 7, 3) := by decide +kernel
theorem dX5_cleaned_157 : decode cX5_cleaned 157 = .ok (.bipush 8, 2) := by decide +kernel
theorem dX5_cleaned_159 : decode cX5_cleaned 159 = .ok (.iconst 2, 1) := by decide +kernel
theorem dX5_cleaned_160 : decode cX5_cleaned 160 = .ok (.iload_n 1, 1) := by decide +kernel
theorem dX5_cleaned_161 : decode cX5_cleaned 161 = .ok (.imul, 1) := by decide +kernel
theorem dX5_cleaned_162 : decode cX5_cleaned 162 = .ok (.iadd, 1) := by decide +kernel
theorem dX5_cleaned_163 : decode cX5_cleaned 163 = .ok (.iload_n 2, 1) := by decide +kernel
theorem dX5_cleaned_164 : decode cX5_cleaned 164 = .ok (.ifCond .eq 7, 3) := by decide +kernel
theorem dX5_cleaned_167 : decode cX5_cleaned 167 = .ok (.iconst 2, 1) := by decide +kernel
theorem dX5_cleaned_168 : decode cX5_cleaned 168 = .ok (.goto 4, 3) := by decide +kernel
theorem dX5_cleaned_171 : decode cX5_cleaned 171 = .ok (.iconst 1, 1) := by decide +kernel
theorem dX5_cleaned_172 : decode cX5_cleaned 172 = .ok (.iastore, 1) := by decide +kernel
theorem dX5_cleaned_173 : decode cX5_cleaned 173 = .ok (.iload_n 3, 1) := by decide +kernel
theorem dX5_cleaned_174 : decode cX5_cleaned 174 = .ok (.invokestatic 216, 3) := by decide +kernel
theorem dX5_cleaned_177 : decode cX5_cleaned 177 = .ok (.ireturn, 1) := by decide +kernel
set_option maxRecDepth 20000 in
theorem ggX5_clean_X5_isWall : GoodIn wsX5_clean wsX5_isWall := goodIn_r _ [4, 5, 6, 3, 7] (by decide +kernel) (by decide +kernel)
set_option maxRecDepth 20000 in
theorem gX5_clean_X5_isWall : GoodIn wsX5_clean (va_wsS RX5 200 yX5_isWall wsX5_isWall) := goodIn_app (goodIn_of _ (by decide +kernel)) ggX5_clean_X5_isWall
set_option maxRecDepth 20000 in
theorem ggX5_clean_X5_cleaned : GoodIn wsX5_clean wsX5_cleaned := goodIn_r _ [11, 12, 13, 14, 15, 3, 16, 17, 18, 19, 20, 21, 22, 23, 24, 25, 26, 27, 28, 29, 30, 31, 32, 33, 34, 35, 36, 37, 38, 39, 40, 41, 42, 43, 44, 45, 46, 47, 48, 49, 50, 51, 52, 53, 54, 55, 56, 57, 58, 59, 60, 61, 62, 63, 64, 65, 66, 67, 68, 69] (by decide +kernel) (by decide +kernel)
set_option maxRecDepth 20000 in
theorem gX5_clean_X5_cleaned : GoodIn wsX5_clean (wsV RX5 239 RX5 yX5_cleaned wsX5_cleaned) := goodIn_app (goodIn_of _ (by decide +kernel)) ggX5_clean_X5_cleaned
theorem dX5_clean_0 : decode cX5_clean 0 = .ok (.iload_n 1, 1) := by decide +kernel
theorem dX5_clean_1 : decode cX5_clean 1 = .ok (.invokestatic 200, 3) := by decide +kernel
theorem dX5_clean_4 : decode cX5_clean 4 = .ok (.ifCond .eq 11, 3) := by decide +kernel
theorem dX5_clean_7 : decode cX5_clean 7 = .ok (.aload_n 0, 1) := by decide +kernel
theorem dX5_clean_8 : decode cX5_clean 8 = .ok (.iload_n 1, 1) := by decide +kernel
theorem dX5_clean_9 : decode cX5_clean 9 = .ok (.invokevirtual 239, 3) := by decide +kernel
theorem dX5_clean_12 : decode cX5_clean 12 = .ok (.goto 4, 3) := by decide +kernel
theorem dX5_clean_15 : decode cX5_clean 15 = .ok (.iconst (-1), 1) := by decide +kernel
theorem dX5_clean_16 : decode cX5_clean 16 = .ok (.ireturn, 1) := by decide +kernel
set_option maxRecDepth 20000 in
theorem ggX5_comesBack_X5_its : GoodIn wsX5_comesBack wsX5_its := goodIn_r _ [6, 1, 18, 19, 20, 21, 22, 23, 24, 25, 26, 27, 28, 29, 30, 31, 32, 33, 34, 35, 36, 37, 38, 39, 40, 41, 42, 43, 44, 45, 46, 47] (by decide +kernel) (by decide +kernel)
set_option maxRecDepth 20000 in
theorem gX5_comesBack_X5_its : GoodIn wsX5_comesBack (wsV RX5 210 RX5 yX5_its wsX5_its) := goodIn_app (goodIn_of _ (by decide +kernel)) ggX5_comesBack_X5_its
set_option maxRecDepth 20000 in
theorem ggX5_comesBack_X5_held : GoodIn wsX5_comesBack wsX5_held := goodIn_r _ [9] (by decide +kernel) (by decide +kernel)
set_option maxRecDepth 20000 in
theorem gX5_comesBack_X5_held : GoodIn wsX5_comesBack (va_wsS RX5 242 yX5_held wsX5_held) := goodIn_app (goodIn_of _ (by decide +kernel)) ggX5_comesBack_X5_held
set_option maxRecDepth 20000 in
theorem ggX5_comesBack_X5_sets : GoodIn wsX5_comesBack wsX5_sets := goodIn_r _ [13, 1, 18, 19, 20, 21, 22, 23, 24, 25, 26, 27, 28, 29, 30, 31, 32, 33, 34, 35, 36, 37, 38, 39, 40, 41, 42, 43, 44, 45, 46, 47] (by decide +kernel) (by decide +kernel)
set_option maxRecDepth 20000 in
theorem gX5_comesBack_X5_sets : GoodIn wsX5_comesBack (wsV RX5 203 RX5 yX5_sets wsX5_sets) := goodIn_app (goodIn_of _ (by decide +kernel)) ggX5_comesBack_X5_sets
set_option maxRecDepth 20000 in
theorem ggX5_comesBack_X5_back : GoodIn wsX5_comesBack wsX5_back := goodIn_r _ [17, 2, 3, 4, 5, 6, 1, 18, 19, 20, 21, 22, 23, 24, 25, 26, 27, 28, 29, 30, 31, 32, 33, 34, 35, 36, 37, 38, 39, 40, 41, 42, 43, 44, 45, 46, 47] (by decide +kernel) (by decide +kernel)
set_option maxRecDepth 20000 in
theorem gX5_comesBack_X5_back : GoodIn wsX5_comesBack (wsV RX5 225 RX5 yX5_back wsX5_back) := goodIn_app (goodIn_of _ (by decide +kernel)) ggX5_comesBack_X5_back
theorem dX5_comesBack_0 : decode cX5_comesBack 0 = .ok (.aload_n 0, 1) := by decide +kernel
theorem dX5_comesBack_1 : decode cX5_comesBack 1 = .ok (.iload_n 1, 1) := by decide +kernel
theorem dX5_comesBack_2 : decode cX5_comesBack 2 = .ok (.iconst 4, 1) := by decide +kernel
theorem dX5_comesBack_3 : decode cX5_comesBack 3 = .ok (.aload_n 0, 1) := by decide +kernel
theorem dX5_comesBack_4 : decode cX5_comesBack 4 = .ok (.iload_n 1, 1) := by decide +kernel
theorem dX5_comesBack_5 : decode cX5_comesBack 5 = .ok (.iconst 4, 1) := by decide +kernel
theorem dX5_comesBack_6 : decode cX5_comesBack 6 = .ok (.invokevirtual 210, 3) := by decide +kernel
theorem dX5_comesBack_9 : decode cX5_comesBack 9 = .ok (.iconst 1, 1) := by decide +kernel
theorem dX5_comesBack_10 : decode cX5_comesBack 10 = .ok (.iadd, 1) := by decide +kernel
theorem dX5_comesBack_11 : decode cX5_comesBack 11 = .ok (.iconst 0, 1) := by decide +kernel
theorem dX5_comesBack_12 : decode cX5_comesBack 12 = .ok (.bipush 99, 2) := by decide +kernel
theorem dX5_comesBack_14 : decode cX5_comesBack 14 = .ok (.invokestatic 242, 3) := by decide +kernel
theorem dX5_comesBack_17 : decode cX5_comesBack 17 = .ok (.invokevirtual 203, 3) := by decide +kernel
theorem dX5_comesBack_20 : decode cX5_comesBack 20 = .ok (.aload_n 0, 1) := by decide +kernel
theorem dX5_comesBack_21 : decode cX5_comesBack 21 = .ok (.iload_n 1, 1) := by decide +kernel
theorem dX5_comesBack_22 : decode cX5_comesBack 22 = .ok (.iconst 4, 1) := by decide +kernel
theorem dX5_comesBack_23 : decode cX5_comesBack 23 = .ok (.invokevirtual 210, 3) := by decide +kernel
theorem dX5_comesBack_26 : decode cX5_comesBack 26 = .ok (.aload_n 0, 1) := by decide +kernel
theorem dX5_comesBack_27 : decode cX5_comesBack 27 = .ok (.iload_n 1, 1) := by decide +kernel
theorem dX5_comesBack_28 : decode cX5_comesBack 28 = .ok (.invokevirtual 225, 3) := by decide +kernel
theorem dX5_comesBack_31 : decode cX5_comesBack 31 = .ok (.if_icmp .lt 39, 3) := by decide +kernel
theorem dX5_comesBack_34 : decode cX5_comesBack 34 = .ok (.aload_n 0, 1) := by decide +kernel
theorem dX5_comesBack_35 : decode cX5_comesBack 35 = .ok (.iload_n 1, 1) := by decide +kernel
theorem dX5_comesBack_36 : decode cX5_comesBack 36 = .ok (.iconst 3, 1) := by decide +kernel
theorem dX5_comesBack_37 : decode cX5_comesBack 37 = .ok (.aload_n 0, 1) := by decide +kernel
theorem dX5_comesBack_38 : decode cX5_comesBack 38 = .ok (.iload_n 1, 1) := by decide +kernel
theorem dX5_comesBack_39 : decode cX5_comesBack 39 = .ok (.iconst 1, 1) := by decide +kernel
theorem dX5_comesBack_40 : decode cX5_comesBack 40 = .ok (.invokevirtual 210, 3) := by decide +kernel
theorem dX5_comesBack_43 : decode cX5_comesBack 43 = .ok (.aload_n 0, 1) := by decide +kernel
theorem dX5_comesBack_44 : decode cX5_comesBack 44 = .ok (.getfield 7, 3) := by decide +kernel
theorem dX5_comesBack_47 : decode cX5_comesBack 47 = .ok (.iconst 4, 1) := by decide +kernel
theorem dX5_comesBack_48 : decode cX5_comesBack 48 = .ok (.iaload, 1) := by decide +kernel
theorem dX5_comesBack_49 : decode cX5_comesBack 49 = .ok (.iadd, 1) := by decide +kernel
theorem dX5_comesBack_50 : decode cX5_comesBack 50 = .ok (.bipush 10, 2) := by decide +kernel
theorem dX5_comesBack_52 : decode cX5_comesBack 52 = .ok (.irem, 1) := by decide +kernel
theorem dX5_comesBack_53 : decode cX5_comesBack 53 = .ok (.invokevirtual 203, 3) := by decide +kernel
theorem dX5_comesBack_56 : decode cX5_comesBack 56 = .ok (.aload_n 0, 1) := by decide +kernel
theorem dX5_comesBack_57 : decode cX5_comesBack 57 = .ok (.iload_n 1, 1) := by decide +kernel
theorem dX5_comesBack_58 : decode cX5_comesBack 58 = .ok (.iconst 4, 1) := by decide +kernel
theorem dX5_comesBack_59 : decode cX5_comesBack 59 = .ok (.iconst 0, 1) := by decide +kernel
theorem dX5_comesBack_60 : decode cX5_comesBack 60 = .ok (.invokevirtual 203, 3) := by decide +kernel
theorem dX5_comesBack_63 : decode cX5_comesBack 63 = .ok (.aload_n 0, 1) := by decide +kernel
theorem dX5_comesBack_64 : decode cX5_comesBack 64 = .ok (.iload_n 1, 1) := by decide +kernel
theorem dX5_comesBack_65 : decode cX5_comesBack 65 = .ok (.iconst 2, 1) := by decide +kernel
theorem dX5_comesBack_66 : decode cX5_comesBack 66 = .ok (.iconst 5, 1) := by decide +kernel
theorem dX5_comesBack_67 : decode cX5_comesBack 67 = .ok (.invokevirtual 203, 3) := by decide +kernel
theorem dX5_comesBack_70 : decode cX5_comesBack 70 = .ok (.return_, 1) := by decide +kernel
set_option maxRecDepth 20000 in
theorem ggX5_bucket_X5_looks : GoodIn wsX5_bucket wsX5_looks := goodIn_r _ [5, 6, 7, 8, 9, 4, 10, 38, 39, 40, 41, 42, 43, 44, 45, 46, 47, 48, 49, 50, 51, 52, 53, 54, 55, 56, 57, 58, 59, 60, 61, 62, 63, 64, 65, 66, 67] (by decide +kernel) (by decide +kernel)
set_option maxRecDepth 20000 in
theorem gX5_bucket_X5_looks : GoodIn wsX5_bucket (wsV RX5 236 RX5 yX5_looks wsX5_looks) := goodIn_app (goodIn_of _ (by decide +kernel)) ggX5_bucket_X5_looks
set_option maxRecDepth 20000 in
theorem ggX5_bucket_X5_cleaned : GoodIn wsX5_bucket wsX5_cleaned := goodIn_r _ [14, 6, 15, 16, 17, 4, 18, 7, 8, 9, 10, 19, 20, 21, 22, 23, 24, 25, 26, 27, 28, 29, 30, 31, 32, 33, 34, 35, 36, 37, 38, 39, 40, 41, 42, 43, 44, 45, 46, 47, 48, 49, 50, 51, 52, 53, 54, 55, 56, 57, 58, 59, 60, 61, 62, 63, 64, 65, 66, 67] (by decide +kernel) (by decide +kernel)
set_option maxRecDepth 20000 in
theorem gX5_bucket_X5_cleaned : GoodIn wsX5_bucket (wsV RX5 239 RX5 yX5_cleaned wsX5_cleaned) := goodIn_app (goodIn_of _ (by decide +kernel)) ggX5_bucket_X5_cleaned
theorem dX5_bucket_0 : decode cX5_bucket 0 = .ok (.iconst 0, 1) := by decide +kernel
theorem dX5_bucket_1 : decode cX5_bucket 1 = .ok (.istore_n 1, 1) := by decide +kernel
theorem dX5_bucket_2 : decode cX5_bucket 2 = .ok (.iconst 1, 1) := by decide +kernel
theorem dX5_bucket_3 : decode cX5_bucket 3 = .ok (.istore_n 2, 1) := by decide +kernel
theorem dX5_bucket_4 : decode cX5_bucket 4 = .ok (.iload_n 2, 1) := by decide +kernel
theorem dX5_bucket_5 : decode cX5_bucket 5 = .ok (.bipush 10, 2) := by decide +kernel
theorem dX5_bucket_7 : decode cX5_bucket 7 = .ok (.if_icmp .ge 28, 3) := by decide +kernel
theorem dX5_bucket_10 : decode cX5_bucket 10 = .ok (.aload_n 0, 1) := by decide +kernel
theorem dX5_bucket_11 : decode cX5_bucket 11 = .ok (.iload_n 2, 1) := by decide +kernel
theorem dX5_bucket_12 : decode cX5_bucket 12 = .ok (.invokevirtual 236, 3) := by decide +kernel
theorem dX5_bucket_15 : decode cX5_bucket 15 = .ok (.aload_n 0, 1) := by decide +kernel
theorem dX5_bucket_16 : decode cX5_bucket 16 = .ok (.iload_n 1, 1) := by decide +kernel
theorem dX5_bucket_17 : decode cX5_bucket 17 = .ok (.invokevirtual 236, 3) := by decide +kernel
theorem dX5_bucket_20 : decode cX5_bucket 20 = .ok (.if_icmp .le 7, 3) := by decide +kernel
theorem dX5_bucket_23 : decode cX5_bucket 23 = .ok (.iload_n 2, 1) := by decide +kernel
theorem dX5_bucket_24 : decode cX5_bucket 24 = .ok (.goto 4, 3) := by decide +kernel
theorem dX5_bucket_27 : decode cX5_bucket 27 = .ok (.iload_n 1, 1) := by decide +kernel
theorem dX5_bucket_28 : decode cX5_bucket 28 = .ok (.istore_n 1, 1) := by decide +kernel
theorem dX5_bucket_29 : decode cX5_bucket 29 = .ok (.iinc 2 1, 3) := by decide +kernel
theorem dX5_bucket_32 : decode cX5_bucket 32 = .ok (.goto (-28), 3) := by decide +kernel
theorem dX5_bucket_35 : decode cX5_bucket 35 = .ok (.aload_n 0, 1) := by decide +kernel
theorem dX5_bucket_36 : decode cX5_bucket 36 = .ok (.iload_n 1, 1) := by decide +kernel
theorem dX5_bucket_37 : decode cX5_bucket 37 = .ok (.invokevirtual 236, 3) := by decide +kernel
theorem dX5_bucket_40 : decode cX5_bucket 40 = .ok (.ifCond .le 9, 3) := by decide +kernel
theorem dX5_bucket_43 : decode cX5_bucket 43 = .ok (.aload_n 0, 1) := by decide +kernel
theorem dX5_bucket_44 : decode cX5_bucket 44 = .ok (.iload_n 1, 1) := by decide +kernel
theorem dX5_bucket_45 : decode cX5_bucket 45 = .ok (.invokevirtual 239, 3) := by decide +kernel
theorem dX5_bucket_48 : decode cX5_bucket 48 = .ok (.pop, 1) := by decide +kernel
theorem dX5_bucket_49 : decode cX5_bucket 49 = .ok (.return_, 1) := by decide +kernel
set_option maxRecDepth 20000 in
theorem ggX5_nightGoes_X5_isGone : GoodIn wsX5_nightGoes wsX5_isGone := goodIn_r _ [9, 10, 11, 12, 8, 13, 1, 68, 69, 70, 71, 72, 73, 74, 75, 76, 77, 78, 79, 80, 81, 82, 83, 84, 85, 86, 87, 88, 89, 90, 91, 92, 93, 94, 95, 96, 97] (by decide +kernel) (by decide +kernel)
set_option maxRecDepth 20000 in
theorem gX5_nightGoes_X5_isGone : GoodIn wsX5_nightGoes (wsV RX5 228 RX5 yX5_isGone wsX5_isGone) := goodIn_app (goodIn_of _ (by decide +kernel)) ggX5_nightGoes_X5_isGone
set_option maxRecDepth 20000 in
theorem ggX5_nightGoes_X5_comesBack : GoodIn wsX5_nightGoes wsX5_comesBack := goodIn_r _ [17, 1, 10, 11, 12, 8, 13, 18, 19, 20, 21, 22, 23, 24, 25, 26, 27, 28, 68, 69, 70, 71, 72, 73, 74, 75, 76, 77, 78, 79, 80, 81, 82, 83, 84, 85, 86, 87, 88, 89, 90, 91, 92, 93, 94, 95, 96, 97] (by decide +kernel) (by decide +kernel)
set_option maxRecDepth 20000 in
theorem gX5_nightGoes_X5_comesBack : GoodIn wsX5_nightGoes (wsV RX5 246 RX5 yX5_comesBack wsX5_comesBack) := goodIn_app (goodIn_of _ (by decide +kernel)) ggX5_nightGoes_X5_comesBack
set_option maxRecDepth 20000 in
theorem ggX5_nightGoes_X5_grows : GoodIn wsX5_nightGoes wsX5_grows := goodIn_r _ [32, 1, 10, 11, 12, 8, 13, 33, 34, 35, 36, 37, 38, 39, 40, 41, 42, 43, 44, 45, 46, 47, 68, 69, 70, 71, 72, 73, 74, 75, 76, 77, 78, 79, 80, 81, 82, 83, 84, 85, 86, 87, 88, 89, 90, 91, 92, 93, 94, 95, 96, 97] (by decide +kernel) (by decide +kernel)
set_option maxRecDepth 20000 in
theorem gX5_nightGoes_X5_grows : GoodIn wsX5_nightGoes (wsV RX5 231 RX5 yX5_grows wsX5_grows) := goodIn_app (goodIn_of _ (by decide +kernel)) ggX5_nightGoes_X5_grows
set_option maxRecDepth 20000 in
theorem ggX5_nightGoes_X5_its : GoodIn wsX5_nightGoes wsX5_its := goodIn_r _ [13, 1, 68, 69, 70, 71, 72, 73, 74, 75, 76, 77, 78, 79, 80, 81, 82, 83, 84, 85, 86, 87, 88, 89, 90, 91, 92, 93, 94, 95, 96, 97] (by decide +kernel) (by decide +kernel)
set_option maxRecDepth 20000 in
theorem gX5_nightGoes_X5_its : GoodIn wsX5_nightGoes (wsV RX5 210 RX5 yX5_its wsX5_its) := goodIn_app (goodIn_of _ (by decide +kernel)) ggX5_nightGoes_X5_its
set_option maxRecDepth 20000 in
theorem ggX5_nightGoes_X5_held : GoodIn wsX5_nightGoes wsX5_held := goodIn_r _ [20] (by decide +kernel) (by decide +kernel)
set_option maxRecDepth 20000 in
theorem gX5_nightGoes_X5_held : GoodIn wsX5_nightGoes (va_wsS RX5 242 yX5_held wsX5_held) := goodIn_app (goodIn_of _ (by decide +kernel)) ggX5_nightGoes_X5_held
set_option maxRecDepth 20000 in
theorem ggX5_nightGoes_X5_sets : GoodIn wsX5_nightGoes wsX5_sets := goodIn_r _ [24, 1, 68, 69, 70, 71, 72, 73, 74, 75, 76, 77, 78, 79, 80, 81, 82, 83, 84, 85, 86, 87, 88, 89, 90, 91, 92, 93, 94, 95, 96, 97] (by decide +kernel) (by decide +kernel)
set_option maxRecDepth 20000 in
theorem gX5_nightGoes_X5_sets : GoodIn wsX5_nightGoes (wsV RX5 203 RX5 yX5_sets wsX5_sets) := goodIn_app (goodIn_of _ (by decide +kernel)) ggX5_nightGoes_X5_sets
set_option maxRecDepth 20000 in
theorem ggX5_nightGoes_X5_bucket : GoodIn wsX5_nightGoes wsX5_bucket := goodIn_r _ [51, 52, 53, 54, 8, 55, 1, 10, 11, 12, 13, 56, 57, 58, 59, 33, 34, 35, 36, 60, 61, 62, 63, 37, 38, 39, 40, 41, 42, 43, 44, 45, 46, 47, 21, 22, 23, 24, 68, 69, 70, 71, 72, 73, 74, 75, 76, 77, 78, 79, 80, 81, 82, 83, 84, 85, 86, 87, 88, 89, 90, 91, 92, 93, 94, 95, 96, 97] (by decide +kernel) (by decide +kernel)
set_option maxRecDepth 20000 in
theorem gX5_nightGoes_X5_bucket : GoodIn wsX5_nightGoes (wsV RX5 249 RX5 yX5_bucket wsX5_bucket) := goodIn_app (goodIn_of _ (by decide +kernel)) ggX5_nightGoes_X5_bucket
set_option maxRecDepth 20000 in
theorem ggX5_nightGoes_X5_looksOfAll : GoodIn wsX5_nightGoes wsX5_looksOfAll := goodIn_r _ [67, 52, 53, 54, 8, 55, 1, 10, 11, 12, 13, 68, 69, 70, 71, 72, 73, 74, 75, 76, 77, 78, 79, 80, 81, 82, 83, 84, 85, 86, 87, 88, 89, 90, 91, 92, 93, 94, 95, 96, 97] (by decide +kernel) (by decide +kernel)
set_option maxRecDepth 20000 in
theorem gX5_nightGoes_X5_looksOfAll : GoodIn wsX5_nightGoes (wsV RX5 252 RX5 yX5_looksOfAll wsX5_looksOfAll) := goodIn_app (goodIn_of _ (by decide +kernel)) ggX5_nightGoes_X5_looksOfAll
theorem dX5_nightGoes_0 : decode cX5_nightGoes 0 = .ok (.iconst 0, 1) := by decide +kernel
theorem dX5_nightGoes_1 : decode cX5_nightGoes 1 = .ok (.istore_n 1, 1) := by decide +kernel
theorem dX5_nightGoes_2 : decode cX5_nightGoes 2 = .ok (.iload_n 1, 1) := by decide +kernel
theorem dX5_nightGoes_3 : decode cX5_nightGoes 3 = .ok (.aload_n 0, 1) := by decide +kernel
theorem dX5_nightGoes_4 : decode cX5_nightGoes 4 = .ok (.getfield 7, 3) := by decide +kernel
theorem dX5_nightGoes_7 : decode cX5_nightGoes 7 = .ok (.bipush 6, 2) := by decide +kernel
theorem dX5_nightGoes_9 : decode cX5_nightGoes 9 = .ok (.iaload, 1) := by decide +kernel
theorem dX5_nightGoes_10 : decode cX5_nightGoes 10 = .ok (.if_icmp .ge 22, 3) := by decide +kernel
theorem dX5_nightGoes_13 : decode cX5_nightGoes 13 = .ok (.aload_n 0, 1) := by decide +kernel
theorem dX5_nightGoes_14 : decode cX5_nightGoes 14 = .ok (.iload_n 1, 1) := by decide +kernel
theorem dX5_nightGoes_15 : decode cX5_nightGoes 15 = .ok (.invokevirtual 228, 3) := by decide +kernel
theorem dX5_nightGoes_18 : decode cX5_nightGoes 18 = .ok (.ifCond .eq 8, 3) := by decide +kernel
theorem dX5_nightGoes_21 : decode cX5_nightGoes 21 = .ok (.aload_n 0, 1) := by decide +kernel
theorem dX5_nightGoes_22 : decode cX5_nightGoes 22 = .ok (.iload_n 1, 1) := by decide +kernel
theorem dX5_nightGoes_23 : decode cX5_nightGoes 23 = .ok (.invokevirtual 246, 3) := by decide +kernel
theorem dX5_nightGoes_26 : decode cX5_nightGoes 26 = .ok (.iinc 1 1, 3) := by decide +kernel
theorem dX5_nightGoes_29 : decode cX5_nightGoes 29 = .ok (.goto (-27), 3) := by decide +kernel
theorem dX5_nightGoes_32 : decode cX5_nightGoes 32 = .ok (.iconst 0, 1) := by decide +kernel
theorem dX5_nightGoes_33 : decode cX5_nightGoes 33 = .ok (.istore_n 1, 1) := by decide +kernel
theorem dX5_nightGoes_34 : decode cX5_nightGoes 34 = .ok (.iload_n 1, 1) := by decide +kernel
theorem dX5_nightGoes_35 : decode cX5_nightGoes 35 = .ok (.aload_n 0, 1) := by decide +kernel
theorem dX5_nightGoes_36 : decode cX5_nightGoes 36 = .ok (.getfield 7, 3) := by decide +kernel
theorem dX5_nightGoes_39 : decode cX5_nightGoes 39 = .ok (.bipush 6, 2) := by decide +kernel
theorem dX5_nightGoes_41 : decode cX5_nightGoes 41 = .ok (.iaload, 1) := by decide +kernel
theorem dX5_nightGoes_42 : decode cX5_nightGoes 42 = .ok (.if_icmp .ge 32, 3) := by decide +kernel
theorem dX5_nightGoes_45 : decode cX5_nightGoes 45 = .ok (.aload_n 0, 1) := by decide +kernel
theorem dX5_nightGoes_46 : decode cX5_nightGoes 46 = .ok (.getfield 25, 3) := by decide +kernel
theorem dX5_nightGoes_49 : decode cX5_nightGoes 49 = .ok (.iload_n 1, 1) := by decide +kernel
theorem dX5_nightGoes_50 : decode cX5_nightGoes 50 = .ok (.aload_n 0, 1) := by decide +kernel
theorem dX5_nightGoes_51 : decode cX5_nightGoes 51 = .ok (.iload_n 1, 1) := by decide +kernel
theorem dX5_nightGoes_52 : decode cX5_nightGoes 52 = .ok (.invokevirtual 228, 3) := by decide +kernel
theorem dX5_nightGoes_55 : decode cX5_nightGoes 55 = .ok (.ifCond .eq 7, 3) := by decide +kernel
theorem dX5_nightGoes_58 : decode cX5_nightGoes 58 = .ok (.iconst 0, 1) := by decide +kernel
theorem dX5_nightGoes_59 : decode cX5_nightGoes 59 = .ok (.goto 8, 3) := by decide +kernel
theorem dX5_nightGoes_62 : decode cX5_nightGoes 62 = .ok (.aload_n 0, 1) := by decide +kernel
theorem dX5_nightGoes_63 : decode cX5_nightGoes 63 = .ok (.iload_n 1, 1) := by decide +kernel
theorem dX5_nightGoes_64 : decode cX5_nightGoes 64 = .ok (.invokevirtual 231, 3) := by decide +kernel
theorem dX5_nightGoes_67 : decode cX5_nightGoes 67 = .ok (.iastore, 1) := by decide +kernel
theorem dX5_nightGoes_68 : decode cX5_nightGoes 68 = .ok (.iinc 1 1, 3) := by decide +kernel
theorem dX5_nightGoes_71 : decode cX5_nightGoes 71 = .ok (.goto (-37), 3) := by decide +kernel
theorem dX5_nightGoes_74 : decode cX5_nightGoes 74 = .ok (.iconst 0, 1) := by decide +kernel
theorem dX5_nightGoes_75 : decode cX5_nightGoes 75 = .ok (.istore_n 1, 1) := by decide +kernel
theorem dX5_nightGoes_76 : decode cX5_nightGoes 76 = .ok (.iload_n 1, 1) := by decide +kernel
theorem dX5_nightGoes_77 : decode cX5_nightGoes 77 = .ok (.aload_n 0, 1) := by decide +kernel
theorem dX5_nightGoes_78 : decode cX5_nightGoes 78 = .ok (.getfield 7, 3) := by decide +kernel
theorem dX5_nightGoes_81 : decode cX5_nightGoes 81 = .ok (.bipush 6, 2) := by decide +kernel
theorem dX5_nightGoes_83 : decode cX5_nightGoes 83 = .ok (.iaload, 1) := by decide +kernel
theorem dX5_nightGoes_84 : decode cX5_nightGoes 84 = .ok (.if_icmp .ge 34, 3) := by decide +kernel
theorem dX5_nightGoes_87 : decode cX5_nightGoes 87 = .ok (.aload_n 0, 1) := by decide +kernel
theorem dX5_nightGoes_88 : decode cX5_nightGoes 88 = .ok (.iload_n 1, 1) := by decide +kernel
theorem dX5_nightGoes_89 : decode cX5_nightGoes 89 = .ok (.iconst 2, 1) := by decide +kernel
theorem dX5_nightGoes_90 : decode cX5_nightGoes 90 = .ok (.aload_n 0, 1) := by decide +kernel
theorem dX5_nightGoes_91 : decode cX5_nightGoes 91 = .ok (.iload_n 1, 1) := by decide +kernel
theorem dX5_nightGoes_92 : decode cX5_nightGoes 92 = .ok (.iconst 2, 1) := by decide +kernel
theorem dX5_nightGoes_93 : decode cX5_nightGoes 93 = .ok (.invokevirtual 210, 3) := by decide +kernel
theorem dX5_nightGoes_96 : decode cX5_nightGoes 96 = .ok (.aload_n 0, 1) := by decide +kernel
theorem dX5_nightGoes_97 : decode cX5_nightGoes 97 = .ok (.getfield 25, 3) := by decide +kernel
theorem dX5_nightGoes_100 : decode cX5_nightGoes 100 = .ok (.iload_n 1, 1) := by decide +kernel
theorem dX5_nightGoes_101 : decode cX5_nightGoes 101 = .ok (.iaload, 1) := by decide +kernel
theorem dX5_nightGoes_102 : decode cX5_nightGoes 102 = .ok (.iadd, 1) := by decide +kernel
theorem dX5_nightGoes_103 : decode cX5_nightGoes 103 = .ok (.iconst 0, 1) := by decide +kernel
theorem dX5_nightGoes_104 : decode cX5_nightGoes 104 = .ok (.bipush 99, 2) := by decide +kernel
theorem dX5_nightGoes_106 : decode cX5_nightGoes 106 = .ok (.invokestatic 242, 3) := by decide +kernel
theorem dX5_nightGoes_109 : decode cX5_nightGoes 109 = .ok (.invokevirtual 203, 3) := by decide +kernel
theorem dX5_nightGoes_112 : decode cX5_nightGoes 112 = .ok (.iinc 1 1, 3) := by decide +kernel
theorem dX5_nightGoes_115 : decode cX5_nightGoes 115 = .ok (.goto (-39), 3) := by decide +kernel
theorem dX5_nightGoes_118 : decode cX5_nightGoes 118 = .ok (.iconst 0, 1) := by decide +kernel
theorem dX5_nightGoes_119 : decode cX5_nightGoes 119 = .ok (.istore_n 1, 1) := by decide +kernel
theorem dX5_nightGoes_120 : decode cX5_nightGoes 120 = .ok (.iload_n 1, 1) := by decide +kernel
theorem dX5_nightGoes_121 : decode cX5_nightGoes 121 = .ok (.aload_n 0, 1) := by decide +kernel
theorem dX5_nightGoes_122 : decode cX5_nightGoes 122 = .ok (.getfield 7, 3) := by decide +kernel
theorem dX5_nightGoes_125 : decode cX5_nightGoes 125 = .ok (.iconst 0, 1) := by decide +kernel
theorem dX5_nightGoes_126 : decode cX5_nightGoes 126 = .ok (.iaload, 1) := by decide +kernel
theorem dX5_nightGoes_127 : decode cX5_nightGoes 127 = .ok (.if_icmp .ge 13, 3) := by decide +kernel
theorem dX5_nightGoes_130 : decode cX5_nightGoes 130 = .ok (.aload_n 0, 1) := by decide +kernel
theorem dX5_nightGoes_131 : decode cX5_nightGoes 131 = .ok (.invokevirtual 249, 3) := by decide +kernel
theorem dX5_nightGoes_134 : decode cX5_nightGoes 134 = .ok (.iinc 1 1, 3) := by decide +kernel
theorem dX5_nightGoes_137 : decode cX5_nightGoes 137 = .ok (.goto (-17), 3) := by decide +kernel
theorem dX5_nightGoes_140 : decode cX5_nightGoes 140 = .ok (.aload_n 0, 1) := by decide +kernel
theorem dX5_nightGoes_141 : decode cX5_nightGoes 141 = .ok (.getfield 7, 3) := by decide +kernel
theorem dX5_nightGoes_144 : decode cX5_nightGoes 144 = .ok (.iconst 4, 1) := by decide +kernel
theorem dX5_nightGoes_145 : decode cX5_nightGoes 145 = .ok (.dup2, 1) := by decide +kernel
theorem dX5_nightGoes_146 : decode cX5_nightGoes 146 = .ok (.iaload, 1) := by decide +kernel
theorem dX5_nightGoes_147 : decode cX5_nightGoes 147 = .ok (.iconst 1, 1) := by decide +kernel
theorem dX5_nightGoes_148 : decode cX5_nightGoes 148 = .ok (.iadd, 1) := by decide +kernel
theorem dX5_nightGoes_149 : decode cX5_nightGoes 149 = .ok (.iastore, 1) := by decide +kernel
theorem dX5_nightGoes_150 : decode cX5_nightGoes 150 = .ok (.aload_n 0, 1) := by decide +kernel
theorem dX5_nightGoes_151 : decode cX5_nightGoes 151 = .ok (.invokevirtual 252, 3) := by decide +kernel
theorem dX5_nightGoes_154 : decode cX5_nightGoes 154 = .ok (.istore_n 1, 1) := by decide +kernel
theorem dX5_nightGoes_155 : decode cX5_nightGoes 155 = .ok (.aload_n 0, 1) := by decide +kernel
theorem dX5_nightGoes_156 : decode cX5_nightGoes 156 = .ok (.dup, 1) := by decide +kernel
theorem dX5_nightGoes_157 : decode cX5_nightGoes 157 = .ok (.getfield 255, 3) := by decide +kernel
theorem dX5_nightGoes_160 : decode cX5_nightGoes 160 = .ok (.iload_n 1, 1) := by decide +kernel
theorem dX5_nightGoes_161 : decode cX5_nightGoes 161 = .ok (.iadd, 1) := by decide +kernel
theorem dX5_nightGoes_162 : decode cX5_nightGoes 162 = .ok (.putfield 255, 3) := by decide +kernel
theorem dX5_nightGoes_165 : decode cX5_nightGoes 165 = .ok (.aload_n 0, 1) := by decide +kernel
theorem dX5_nightGoes_166 : decode cX5_nightGoes 166 = .ok (.getfield 7, 3) := by decide +kernel
theorem dX5_nightGoes_169 : decode cX5_nightGoes 169 = .ok (.iconst 5, 1) := by decide +kernel
theorem dX5_nightGoes_170 : decode cX5_nightGoes 170 = .ok (.aload_n 0, 1) := by decide +kernel
theorem dX5_nightGoes_171 : decode cX5_nightGoes 171 = .ok (.getfield 7, 3) := by decide +kernel
theorem dX5_nightGoes_174 : decode cX5_nightGoes 174 = .ok (.iconst 5, 1) := by decide +kernel
theorem dX5_nightGoes_175 : decode cX5_nightGoes 175 = .ok (.iaload, 1) := by decide +kernel
theorem dX5_nightGoes_176 : decode cX5_nightGoes 176 = .ok (.iload_n 1, 1) := by decide +kernel
theorem dX5_nightGoes_177 : decode cX5_nightGoes 177 = .ok (.iadd, 1) := by decide +kernel
theorem dX5_nightGoes_178 : decode cX5_nightGoes 178 = .ok (.iconst 0, 1) := by decide +kernel
theorem dX5_nightGoes_179 : decode cX5_nightGoes 179 = .ok (.ldc_w 258, 3) := by decide +kernel
theorem dX5_nightGoes_182 : decode cX5_nightGoes 182 = .ok (.invokestatic 242, 3) := by decide +kernel
theorem dX5_nightGoes_185 : decode cX5_nightGoes 185 = .ok (.iastore, 1) := by decide +kernel
theorem dX5_nightGoes_186 : decode cX5_nightGoes 186 = .ok (.return_, 1) := by decide +kernel
set_option maxRecDepth 20000 in
theorem ggX5_nights_X5_in : GoodIn wsX5_nights wsX5_in := goodIn_r _ [5] (by decide +kernel) (by decide +kernel)
set_option maxRecDepth 20000 in
theorem gX5_nights_X5_in : GoodIn wsX5_nights (va_wsS RX5 60 yX5_in wsX5_in) := goodIn_app (goodIn_of _ (by decide +kernel)) ggX5_nights_X5_in
set_option maxRecDepth 20000 in
theorem ggX5_nights_X5_nightGoes : GoodIn wsX5_nights wsX5_nightGoes := goodIn_r _ [9, 10, 11, 1, 12, 13, 14, 15, 4, 16, 17, 18, 19, 20, 21, 22, 23, 24, 25, 26, 27, 28, 29, 30, 31, 32, 33, 34, 35, 36, 37, 38, 39, 40, 41, 42, 43, 44, 45, 46, 47, 48, 49, 50, 51, 52, 53, 54, 55, 56, 57, 58, 59, 60, 61, 62, 63, 64, 65, 66, 67, 68, 69, 70, 71, 72, 73, 74, 75, 76, 77, 78, 79, 80, 81, 82, 83, 84, 85, 86, 87, 88, 89, 90, 91, 92, 93, 94, 95, 96, 97, 98, 99, 100, 101, 102, 103, 104] (by decide +kernel) (by decide +kernel)
set_option maxRecDepth 20000 in
theorem gX5_nights_X5_nightGoes : GoodIn wsX5_nights (wsV RX5 259 RX5 yX5_nightGoes wsX5_nightGoes) := goodIn_app (goodIn_of _ (by decide +kernel)) ggX5_nights_X5_nightGoes
set_option maxRecDepth 20000 in
theorem ggX5_nights_X5_looksOfAll : GoodIn wsX5_nights wsX5_looksOfAll := goodIn_r _ [74, 59, 60, 61, 4, 62, 10, 17, 18, 19, 20, 75, 76, 77, 78, 79, 80, 81, 82, 83, 84, 85, 86, 87, 88, 89, 90, 91, 92, 93, 94, 95, 96, 97, 98, 99, 100, 101, 102, 103, 104] (by decide +kernel) (by decide +kernel)
set_option maxRecDepth 20000 in
theorem gX5_nights_X5_looksOfAll : GoodIn wsX5_nights (wsV RX5 252 RX5 yX5_looksOfAll wsX5_looksOfAll) := goodIn_app (goodIn_of _ (by decide +kernel)) ggX5_nights_X5_looksOfAll
theorem dX5_nights_0 : decode cX5_nights 0 = .ok (.iload_n 1, 1) := by decide +kernel
theorem dX5_nights_1 : decode cX5_nights 1 = .ok (.iconst 1, 1) := by decide +kernel
theorem dX5_nights_2 : decode cX5_nights 2 = .ok (.bipush 60, 2) := by decide +kernel
theorem dX5_nights_4 : decode cX5_nights 4 = .ok (.invokestatic 60, 3) := by decide +kernel
theorem dX5_nights_7 : decode cX5_nights 7 = .ok (.ifCond .ne 5, 3) := by decide +kernel
theorem dX5_nights_10 : decode cX5_nights 10 = .ok (.iconst (-1), 1) := by decide +kernel
theorem dX5_nights_11 : decode cX5_nights 11 = .ok (.ireturn, 1) := by decide +kernel
theorem dX5_nights_12 : decode cX5_nights 12 = .ok (.iconst 0, 1) := by decide +kernel
theorem dX5_nights_13 : decode cX5_nights 13 = .ok (.istore_n 2, 1) := by decide +kernel
theorem dX5_nights_14 : decode cX5_nights 14 = .ok (.iload_n 2, 1) := by decide +kernel
theorem dX5_nights_15 : decode cX5_nights 15 = .ok (.iload_n 1, 1) := by decide +kernel
theorem dX5_nights_16 : decode cX5_nights 16 = .ok (.if_icmp .ge 13, 3) := by decide +kernel
theorem dX5_nights_19 : decode cX5_nights 19 = .ok (.aload_n 0, 1) := by decide +kernel
theorem dX5_nights_20 : decode cX5_nights 20 = .ok (.invokevirtual 259, 3) := by decide +kernel
theorem dX5_nights_23 : decode cX5_nights 23 = .ok (.iinc 2 1, 3) := by decide +kernel
theorem dX5_nights_26 : decode cX5_nights 26 = .ok (.goto (-12), 3) := by decide +kernel
theorem dX5_nights_29 : decode cX5_nights 29 = .ok (.aload_n 0, 1) := by decide +kernel
theorem dX5_nights_30 : decode cX5_nights 30 = .ok (.iconst 0, 1) := by decide +kernel
theorem dX5_nights_31 : decode cX5_nights 31 = .ok (.putfield 255, 3) := by decide +kernel
theorem dX5_nights_34 : decode cX5_nights 34 = .ok (.aload_n 0, 1) := by decide +kernel
theorem dX5_nights_35 : decode cX5_nights 35 = .ok (.invokevirtual 252, 3) := by decide +kernel
theorem dX5_nights_38 : decode cX5_nights 38 = .ok (.ireturn, 1) := by decide +kernel
theorem dX5_drawn_0 : decode cX5_drawn 0 = .ok (.aload_n 0, 1) := by decide +kernel
theorem dX5_drawn_1 : decode cX5_drawn 1 = .ok (.getfield 7, 3) := by decide +kernel
theorem dX5_drawn_4 : decode cX5_drawn 4 = .ok (.bipush 7, 2) := by decide +kernel
theorem dX5_drawn_6 : decode cX5_drawn 6 = .ok (.aload_n 0, 1) := by decide +kernel
theorem dX5_drawn_7 : decode cX5_drawn 7 = .ok (.getfield 7, 3) := by decide +kernel
theorem dX5_drawn_10 : decode cX5_drawn 10 = .ok (.bipush 7, 2) := by decide +kernel
theorem dX5_drawn_12 : decode cX5_drawn 12 = .ok (.iaload, 1) := by decide +kernel
theorem dX5_drawn_13 : decode cX5_drawn 13 = .ok (.ldc_w 262, 3) := by decide +kernel
theorem dX5_drawn_16 : decode cX5_drawn 16 = .ok (.imul, 1) := by decide +kernel
theorem dX5_drawn_17 : decode cX5_drawn 17 = .ok (.sipush 12345, 3) := by decide +kernel
theorem dX5_drawn_20 : decode cX5_drawn 20 = .ok (.iadd, 1) := by decide +kernel
theorem dX5_drawn_21 : decode cX5_drawn 21 = .ok (.iastore, 1) := by decide +kernel
theorem dX5_drawn_22 : decode cX5_drawn 22 = .ok (.aload_n 0, 1) := by decide +kernel
theorem dX5_drawn_23 : decode cX5_drawn 23 = .ok (.getfield 7, 3) := by decide +kernel
theorem dX5_drawn_26 : decode cX5_drawn 26 = .ok (.bipush 7, 2) := by decide +kernel
theorem dX5_drawn_28 : decode cX5_drawn 28 = .ok (.iaload, 1) := by decide +kernel
theorem dX5_drawn_29 : decode cX5_drawn 29 = .ok (.bipush 16, 2) := by decide +kernel
theorem dX5_drawn_31 : decode cX5_drawn 31 = .ok (.iushr, 1) := by decide +kernel
theorem dX5_drawn_32 : decode cX5_drawn 32 = .ok (.ireturn, 1) := by decide +kernel
set_option maxRecDepth 20000 in
theorem ggX5_seed_X5_becomes : GoodIn wsX5_seed wsX5_becomes := goodIn_r _ [5, 6, 7, 8, 9, 10, 11, 12, 13, 14, 15, 16, 17, 18, 19, 20, 21, 22, 23, 24, 25, 26, 27, 28, 29, 30, 31, 32, 33, 34, 35, 36] (by decide +kernel) (by decide +kernel)
set_option maxRecDepth 20000 in
theorem gX5_seed_X5_becomes : GoodIn wsX5_seed (wsV RX5 193 RX5 yX5_becomes wsX5_becomes) := goodIn_app (goodIn_of _ (by decide +kernel)) ggX5_seed_X5_becomes
theorem dX5_seed_0 : decode cX5_seed 0 = .ok (.aload_n 0, 1) := by decide +kernel
theorem dX5_seed_1 : decode cX5_seed 1 = .ok (.bipush 7, 2) := by decide +kernel
theorem dX5_seed_3 : decode cX5_seed 3 = .ok (.iload_n 1, 1) := by decide +kernel
theorem dX5_seed_4 : decode cX5_seed 4 = .ok (.invokevirtual 193, 3) := by decide +kernel
theorem dX5_seed_7 : decode cX5_seed 7 = .ok (.ireturn, 1) := by decide +kernel
set_option maxRecDepth 20000 in
theorem ggX5_nightByDraws_X5_drawn : GoodIn wsX5_nightByDraws wsX5_drawn := goodIn_r _ [6, 1, 7, 77, 78, 79, 80, 81, 82, 83, 84, 85, 86, 87, 88, 89, 90, 91, 92, 93, 94, 95, 96, 97, 98, 99, 100, 101, 102, 103, 104, 105, 106] (by decide +kernel) (by decide +kernel)
set_option maxRecDepth 20000 in
theorem gX5_nightByDraws_X5_drawn : GoodIn wsX5_nightByDraws (wsV RX5 263 RX5 yX5_drawn wsX5_drawn) := goodIn_app (goodIn_of _ (by decide +kernel)) ggX5_nightByDraws_X5_drawn
set_option maxRecDepth 20000 in
theorem ggX5_nightByDraws_X5_its : GoodIn wsX5_nightByDraws wsX5_its := goodIn_r _ [11, 1, 77, 78, 79, 80, 81, 82, 83, 84, 85, 86, 87, 88, 89, 90, 91, 92, 93, 94, 95, 96, 97, 98, 99, 100, 101, 102, 103, 104, 105, 106] (by decide +kernel) (by decide +kernel)
set_option maxRecDepth 20000 in
theorem gX5_nightByDraws_X5_its : GoodIn wsX5_nightByDraws (wsV RX5 210 RX5 yX5_its wsX5_its) := goodIn_app (goodIn_of _ (by decide +kernel)) ggX5_nightByDraws_X5_its
set_option maxRecDepth 20000 in
theorem ggX5_nightByDraws_X5_sets : GoodIn wsX5_nightByDraws wsX5_sets := goodIn_r _ [15, 1, 77, 78, 79, 80, 81, 82, 83, 84, 85, 86, 87, 88, 89, 90, 91, 92, 93, 94, 95, 96, 97, 98, 99, 100, 101, 102, 103, 104, 105, 106] (by decide +kernel) (by decide +kernel)
set_option maxRecDepth 20000 in
theorem gX5_nightByDraws_X5_sets : GoodIn wsX5_nightByDraws (wsV RX5 203 RX5 yX5_sets wsX5_sets) := goodIn_app (goodIn_of _ (by decide +kernel)) ggX5_nightByDraws_X5_sets
set_option maxRecDepth 20000 in
theorem ggX5_nightByDraws_X5_nightGoes : GoodIn wsX5_nightByDraws wsX5_nightGoes := goodIn_r _ [19, 1, 20, 21, 22, 23, 24, 25, 5, 26, 8, 9, 10, 11, 27, 28, 29, 30, 31, 32, 33, 12, 13, 14, 15, 34, 35, 36, 37, 38, 39, 40, 41, 42, 43, 44, 45, 46, 47, 48, 49, 50, 51, 52, 53, 54, 55, 56, 57, 58, 59, 60, 61, 62, 63, 64, 65, 66, 67, 68, 69, 70, 71, 72, 73, 74, 75, 76, 77, 78, 79, 80, 81, 82, 83, 84, 85, 86, 87, 88, 89, 90, 91, 92, 93, 94, 95, 96, 97, 98, 99, 100, 101, 102, 103, 104, 105, 106] (by decide +kernel) (by decide +kernel)
set_option maxRecDepth 20000 in
theorem gX5_nightByDraws_X5_nightGoes : GoodIn wsX5_nightByDraws (wsV RX5 259 RX5 yX5_nightGoes wsX5_nightGoes) := goodIn_app (goodIn_of _ (by decide +kernel)) ggX5_nightByDraws_X5_nightGoes
theorem dX5_nightByDraws_0 : decode cX5_nightByDraws 0 = .ok (.aload_n 0, 1) := by decide +kernel
theorem dX5_nightByDraws_1 : decode cX5_nightByDraws 1 = .ok (.getfield 7, 3) := by decide +kernel
theorem dX5_nightByDraws_4 : decode cX5_nightByDraws 4 = .ok (.bipush 6, 2) := by decide +kernel
theorem dX5_nightByDraws_6 : decode cX5_nightByDraws 6 = .ok (.iaload, 1) := by decide +kernel
theorem dX5_nightByDraws_7 : decode cX5_nightByDraws 7 = .ok (.ifCond .le 46, 3) := by decide +kernel
theorem dX5_nightByDraws_10 : decode cX5_nightByDraws 10 = .ok (.aload_n 0, 1) := by decide +kernel
theorem dX5_nightByDraws_11 : decode cX5_nightByDraws 11 = .ok (.invokevirtual 263, 3) := by decide +kernel
theorem dX5_nightByDraws_14 : decode cX5_nightByDraws 14 = .ok (.aload_n 0, 1) := by decide +kernel
theorem dX5_nightByDraws_15 : decode cX5_nightByDraws 15 = .ok (.getfield 7, 3) := by decide +kernel
theorem dX5_nightByDraws_18 : decode cX5_nightByDraws 18 = .ok (.bipush 6, 2) := by decide +kernel
theorem dX5_nightByDraws_20 : decode cX5_nightByDraws 20 = .ok (.iaload, 1) := by decide +kernel
theorem dX5_nightByDraws_21 : decode cX5_nightByDraws 21 = .ok (.irem, 1) := by decide +kernel
theorem dX5_nightByDraws_22 : decode cX5_nightByDraws 22 = .ok (.istore_n 1, 1) := by decide +kernel
theorem dX5_nightByDraws_23 : decode cX5_nightByDraws 23 = .ok (.aload_n 0, 1) := by decide +kernel
theorem dX5_nightByDraws_24 : decode cX5_nightByDraws 24 = .ok (.invokevirtual 263, 3) := by decide +kernel
theorem dX5_nightByDraws_27 : decode cX5_nightByDraws 27 = .ok (.bipush 100, 2) := by decide +kernel
theorem dX5_nightByDraws_29 : decode cX5_nightByDraws 29 = .ok (.irem, 1) := by decide +kernel
theorem dX5_nightByDraws_30 : decode cX5_nightByDraws 30 = .ok (.aload_n 0, 1) := by decide +kernel
theorem dX5_nightByDraws_31 : decode cX5_nightByDraws 31 = .ok (.getfield 7, 3) := by decide +kernel
theorem dX5_nightByDraws_34 : decode cX5_nightByDraws 34 = .ok (.iconst 3, 1) := by decide +kernel
theorem dX5_nightByDraws_35 : decode cX5_nightByDraws 35 = .ok (.iaload, 1) := by decide +kernel
theorem dX5_nightByDraws_36 : decode cX5_nightByDraws 36 = .ok (.if_icmp .ge 17, 3) := by decide +kernel
theorem dX5_nightByDraws_39 : decode cX5_nightByDraws 39 = .ok (.aload_n 0, 1) := by decide +kernel
theorem dX5_nightByDraws_40 : decode cX5_nightByDraws 40 = .ok (.iload_n 1, 1) := by decide +kernel
theorem dX5_nightByDraws_41 : decode cX5_nightByDraws 41 = .ok (.iconst 2, 1) := by decide +kernel
theorem dX5_nightByDraws_42 : decode cX5_nightByDraws 42 = .ok (.aload_n 0, 1) := by decide +kernel
theorem dX5_nightByDraws_43 : decode cX5_nightByDraws 43 = .ok (.iload_n 1, 1) := by decide +kernel
theorem dX5_nightByDraws_44 : decode cX5_nightByDraws 44 = .ok (.iconst 2, 1) := by decide +kernel
theorem dX5_nightByDraws_45 : decode cX5_nightByDraws 45 = .ok (.invokevirtual 210, 3) := by decide +kernel
theorem dX5_nightByDraws_48 : decode cX5_nightByDraws 48 = .ok (.iconst 2, 1) := by decide +kernel
theorem dX5_nightByDraws_49 : decode cX5_nightByDraws 49 = .ok (.idiv, 1) := by decide +kernel
theorem dX5_nightByDraws_50 : decode cX5_nightByDraws 50 = .ok (.invokevirtual 203, 3) := by decide +kernel
theorem dX5_nightByDraws_53 : decode cX5_nightByDraws 53 = .ok (.aload_n 0, 1) := by decide +kernel
theorem dX5_nightByDraws_54 : decode cX5_nightByDraws 54 = .ok (.invokevirtual 259, 3) := by decide +kernel
theorem dX5_nightByDraws_57 : decode cX5_nightByDraws 57 = .ok (.return_, 1) := by decide +kernel
set_option maxRecDepth 20000 in
theorem ggX5_night_X5_nightByDraws : GoodIn wsX5_night wsX5_nightByDraws := goodIn_r _ [6, 7, 8, 9, 10, 5, 11, 12, 13, 14, 15, 16, 17, 18, 19, 20, 21, 22, 23, 24, 25, 1, 26, 27, 28, 29, 30, 31, 32, 33, 34, 35, 36, 37, 38, 39, 40, 41, 42, 43, 44, 45, 46, 47, 48, 49, 50, 51, 52, 53, 54, 55, 56, 57, 58, 59, 60, 61, 62, 63, 64, 65, 66, 67, 68, 69, 70, 71, 72, 73, 74, 75, 76, 77, 78, 79, 80, 81, 82, 83, 84, 85, 86, 87, 88, 89, 90, 91, 92, 93, 94, 95, 96, 97, 98, 99, 100, 101, 102, 103, 104, 105, 106, 107, 108, 109, 110] (by decide +kernel) (by decide +kernel)
set_option maxRecDepth 20000 in
theorem gX5_night_X5_nightByDraws : GoodIn wsX5_night (wsV RX5 266 RX5 yX5_nightByDraws wsX5_nightByDraws) := goodIn_app (goodIn_of _ (by decide +kernel)) ggX5_night_X5_nightByDraws
set_option maxRecDepth 20000 in
theorem ggX5_night_X5_looksOfAll : GoodIn wsX5_night wsX5_looksOfAll := goodIn_r _ [80, 65, 66, 67, 5, 68, 7, 13, 14, 15, 16, 81, 82, 83, 84, 85, 86, 87, 88, 89, 90, 91, 92, 93, 94, 95, 96, 97, 98, 99, 100, 101, 102, 103, 104, 105, 106, 107, 108, 109, 110] (by decide +kernel) (by decide +kernel)
set_option maxRecDepth 20000 in
theorem gX5_night_X5_looksOfAll : GoodIn wsX5_night (wsV RX5 252 RX5 yX5_looksOfAll wsX5_looksOfAll) := goodIn_app (goodIn_of _ (by decide +kernel)) ggX5_night_X5_looksOfAll
theorem dX5_night_0 : decode cX5_night 0 = .ok (.aload_n 0, 1) := by decide +kernel
theorem dX5_night_1 : decode cX5_night 1 = .ok (.invokevirtual 266, 3) := by decide +kernel
theorem dX5_night_4 : decode cX5_night 4 = .ok (.aload_n 0, 1) := by decide +kernel
theorem dX5_night_5 : decode cX5_night 5 = .ok (.iconst 0, 1) := by decide +kernel
theorem dX5_night_6 : decode cX5_night 6 = .ok (.putfield 255, 3) := by decide +kernel
theorem dX5_night_9 : decode cX5_night 9 = .ok (.aload_n 0, 1) := by decide +kernel
theorem dX5_night_10 : decode cX5_night 10 = .ok (.invokevirtual 252, 3) := by decide +kernel
theorem dX5_night_13 : decode cX5_night 13 = .ok (.ireturn, 1) := by decide +kernel
set_option maxRecDepth 20000 in
theorem ggX5_shy_X5_in : GoodIn wsX5_shy wsX5_in := goodIn_r _ [7] (by decide +kernel) (by decide +kernel)
set_option maxRecDepth 20000 in
theorem gX5_shy_X5_in : GoodIn wsX5_shy (va_wsS RX5 60 yX5_in wsX5_in) := goodIn_app (goodIn_of _ (by decide +kernel)) ggX5_shy_X5_in
set_option maxRecDepth 20000 in
theorem ggX5_shy_X5_moveAll : GoodIn wsX5_shy wsX5_moveAll := goodIn_r _ [10] (by decide +kernel) (by decide +kernel)
set_option maxRecDepth 20000 in
theorem gX5_shy_X5_moveAll : GoodIn wsX5_shy (va_wsS RX5 186 yX5_moveAll wsX5_moveAll) := goodIn_app (goodIn_of _ (by decide +kernel)) ggX5_shy_X5_moveAll
set_option maxRecDepth 20000 in
theorem ggX5_shy_X5_viewedBy : GoodIn wsX5_shy wsX5_viewedBy := goodIn_r _ [14, 3, 2, 1, 15, 16, 17, 6, 18, 19, 20, 21, 22, 23, 24, 25, 26, 27, 28, 29, 30, 31, 32, 33, 34, 35, 36, 37, 38, 39, 40, 41, 42, 43, 44, 45, 46, 47, 48, 49, 50, 51, 52, 53, 54, 55, 56, 57, 58, 59, 60, 61, 62, 63, 64, 65, 66, 67, 68, 69, 70, 71, 72, 73, 74, 75, 76, 77, 78, 79, 80, 81, 82, 8, 9, 10, 92, 93, 94, 95, 96, 97, 98, 99, 100, 101, 102, 103, 104, 105, 106, 107, 108, 109, 110, 111, 112, 113, 114, 115, 116, 117, 118, 119, 120, 121] (by decide +kernel) (by decide +kernel)
set_option maxRecDepth 20000 in
theorem gX5_shy_X5_viewedBy : GoodIn wsX5_shy (wsV RX5 269 RX5 yX5_viewedBy wsX5_viewedBy) := goodIn_app (goodIn_of _ (by decide +kernel)) ggX5_shy_X5_viewedBy
set_option maxRecDepth 20000 in
theorem ggX5_shy_X5_nightByDraws : GoodIn wsX5_shy wsX5_nightByDraws := goodIn_r _ [86, 1, 87, 88, 89, 6, 90, 91, 25, 26, 27, 28, 36, 37, 38, 39, 15, 16, 17, 18, 19, 3, 20, 21, 22, 23, 24, 29, 30, 31, 32, 33, 34, 35, 40, 41, 42, 43, 44, 45, 46, 47, 48, 49, 50, 51, 52, 53, 54, 55, 56, 57, 58, 59, 60, 61, 62, 63, 64, 65, 66, 67, 68, 69, 70, 71, 72, 73, 74, 75, 76, 77, 78, 79, 80, 81, 82, 92, 93, 94, 95, 96, 97, 98, 99, 100, 101, 102, 103, 104, 105, 106, 107, 108, 109, 110, 111, 112, 113, 114, 115, 116, 117, 118, 119, 120, 121] (by decide +kernel) (by decide +kernel)
set_option maxRecDepth 20000 in
theorem gX5_shy_X5_nightByDraws : GoodIn wsX5_shy (wsV RX5 266 RX5 yX5_nightByDraws wsX5_nightByDraws) := goodIn_app (goodIn_of _ (by decide +kernel)) ggX5_shy_X5_nightByDraws
theorem dX5_shy_0 : decode cX5_shy 0 = .ok (.iload_n 1, 1) := by decide +kernel
theorem dX5_shy_1 : decode cX5_shy 1 = .ok (.iconst 1, 1) := by decide +kernel
theorem dX5_shy_2 : decode cX5_shy 2 = .ok (.bipush 30, 2) := by decide +kernel
theorem dX5_shy_4 : decode cX5_shy 4 = .ok (.invokestatic 60, 3) := by decide +kernel
theorem dX5_shy_7 : decode cX5_shy 7 = .ok (.ifCond .ne 5, 3) := by decide +kernel
theorem dX5_shy_10 : decode cX5_shy 10 = .ok (.iconst (-1), 1) := by decide +kernel
theorem dX5_shy_11 : decode cX5_shy 11 = .ok (.ireturn, 1) := by decide +kernel
theorem dX5_shy_12 : decode cX5_shy 12 = .ok (.aload_n 0, 1) := by decide +kernel
theorem dX5_shy_13 : decode cX5_shy 13 = .ok (.getfield 7, 3) := by decide +kernel
theorem dX5_shy_16 : decode cX5_shy 16 = .ok (.aload_n 0, 1) := by decide +kernel
theorem dX5_shy_17 : decode cX5_shy 17 = .ok (.getfield 19, 3) := by decide +kernel
theorem dX5_shy_20 : decode cX5_shy 20 = .ok (.invokestatic 186, 3) := by decide +kernel
theorem dX5_shy_23 : decode cX5_shy 23 = .ok (.aload_n 0, 1) := by decide +kernel
theorem dX5_shy_24 : decode cX5_shy 24 = .ok (.iconst 1, 1) := by decide +kernel
theorem dX5_shy_25 : decode cX5_shy 25 = .ok (.invokevirtual 269, 3) := by decide +kernel
theorem dX5_shy_28 : decode cX5_shy 28 = .ok (.istore_n 2, 1) := by decide +kernel
theorem dX5_shy_29 : decode cX5_shy 29 = .ok (.aload_n 0, 1) := by decide +kernel
theorem dX5_shy_30 : decode cX5_shy 30 = .ok (.getfield 7, 3) := by decide +kernel
theorem dX5_shy_33 : decode cX5_shy 33 = .ok (.bipush 7, 2) := by decide +kernel
theorem dX5_shy_35 : decode cX5_shy 35 = .ok (.iaload, 1) := by decide +kernel
theorem dX5_shy_36 : decode cX5_shy 36 = .ok (.istore_n 3, 1) := by decide +kernel
theorem dX5_shy_37 : decode cX5_shy 37 = .ok (.iconst 0, 1) := by decide +kernel
theorem dX5_shy_38 : decode cX5_shy 38 = .ok (.istore 4, 2) := by decide +kernel
theorem dX5_shy_40 : decode cX5_shy 40 = .ok (.iconst 0, 1) := by decide +kernel
theorem dX5_shy_41 : decode cX5_shy 41 = .ok (.istore 5, 2) := by decide +kernel
theorem dX5_shy_43 : decode cX5_shy 43 = .ok (.iload 5, 2) := by decide +kernel
theorem dX5_shy_45 : decode cX5_shy 45 = .ok (.iload_n 1, 1) := by decide +kernel
theorem dX5_shy_46 : decode cX5_shy 46 = .ok (.if_icmp .ge 63, 3) := by decide +kernel
theorem dX5_shy_49 : decode cX5_shy 49 = .ok (.aload_n 0, 1) := by decide +kernel
theorem dX5_shy_50 : decode cX5_shy 50 = .ok (.getfield 7, 3) := by decide +kernel
theorem dX5_shy_53 : decode cX5_shy 53 = .ok (.bipush 7, 2) := by decide +kernel
theorem dX5_shy_55 : decode cX5_shy 55 = .ok (.iload_n 3, 1) := by decide +kernel
theorem dX5_shy_56 : decode cX5_shy 56 = .ok (.iastore, 1) := by decide +kernel
theorem dX5_shy_57 : decode cX5_shy 57 = .ok (.aload_n 0, 1) := by decide +kernel
theorem dX5_shy_58 : decode cX5_shy 58 = .ok (.iconst 0, 1) := by decide +kernel
theorem dX5_shy_59 : decode cX5_shy 59 = .ok (.putfield 255, 3) := by decide +kernel
theorem dX5_shy_62 : decode cX5_shy 62 = .ok (.aload_n 0, 1) := by decide +kernel
theorem dX5_shy_63 : decode cX5_shy 63 = .ok (.invokevirtual 266, 3) := by decide +kernel
theorem dX5_shy_66 : decode cX5_shy 66 = .ok (.iload 4, 2) := by decide +kernel
theorem dX5_shy_68 : decode cX5_shy 68 = .ok (.aload_n 0, 1) := by decide +kernel
theorem dX5_shy_69 : decode cX5_shy 69 = .ok (.getfield 255, 3) := by decide +kernel
theorem dX5_shy_72 : decode cX5_shy 72 = .ok (.iload_n 2, 1) := by decide +kernel
theorem dX5_shy_73 : decode cX5_shy 73 = .ok (.if_icmp .ge 7, 3) := by decide +kernel
theorem dX5_shy_76 : decode cX5_shy 76 = .ok (.iconst 1, 1) := by decide +kernel
theorem dX5_shy_77 : decode cX5_shy 77 = .ok (.goto 4, 3) := by decide +kernel
theorem dX5_shy_80 : decode cX5_shy 80 = .ok (.iconst 0, 1) := by decide +kernel
theorem dX5_shy_81 : decode cX5_shy 81 = .ok (.iadd, 1) := by decide +kernel
theorem dX5_shy_82 : decode cX5_shy 82 = .ok (.istore 4, 2) := by decide +kernel
theorem dX5_shy_84 : decode cX5_shy 84 = .ok (.aload_n 0, 1) := by decide +kernel
theorem dX5_shy_85 : decode cX5_shy 85 = .ok (.getfield 7, 3) := by decide +kernel
theorem dX5_shy_88 : decode cX5_shy 88 = .ok (.bipush 7, 2) := by decide +kernel
theorem dX5_shy_90 : decode cX5_shy 90 = .ok (.iaload, 1) := by decide +kernel
theorem dX5_shy_91 : decode cX5_shy 91 = .ok (.istore_n 3, 1) := by decide +kernel
theorem dX5_shy_92 : decode cX5_shy 92 = .ok (.aload_n 0, 1) := by decide +kernel
theorem dX5_shy_93 : decode cX5_shy 93 = .ok (.getfield 19, 3) := by decide +kernel
theorem dX5_shy_96 : decode cX5_shy 96 = .ok (.aload_n 0, 1) := by decide +kernel
theorem dX5_shy_97 : decode cX5_shy 97 = .ok (.getfield 7, 3) := by decide +kernel
theorem dX5_shy_100 : decode cX5_shy 100 = .ok (.invokestatic 186, 3) := by decide +kernel
theorem dX5_shy_103 : decode cX5_shy 103 = .ok (.iinc 5 1, 3) := by decide +kernel
theorem dX5_shy_106 : decode cX5_shy 106 = .ok (.goto (-63), 3) := by decide +kernel
theorem dX5_shy_109 : decode cX5_shy 109 = .ok (.aload_n 0, 1) := by decide +kernel
theorem dX5_shy_110 : decode cX5_shy 110 = .ok (.iconst 0, 1) := by decide +kernel
theorem dX5_shy_111 : decode cX5_shy 111 = .ok (.putfield 255, 3) := by decide +kernel
theorem dX5_shy_114 : decode cX5_shy 114 = .ok (.iload 4, 2) := by decide +kernel
theorem dX5_shy_116 : decode cX5_shy 116 = .ok (.ireturn, 1) := by decide +kernel
set_option maxRecDepth 20000 in
theorem ggX5_goneSet_X5_onWall : GoodIn wsX5_goneSet wsX5_onWall := goodIn_r _ [5, 6, 7, 8, 9, 4, 10, 11, 12, 13, 14, 15, 16, 17, 18, 19, 20, 21, 22, 23, 24, 25, 26, 27, 28, 29, 30, 31, 32, 33, 34, 35, 36, 37, 38, 39, 40] (by decide +kernel) (by decide +kernel)
set_option maxRecDepth 20000 in
theorem gX5_goneSet_X5_onWall : GoodIn wsX5_goneSet (wsV RX5 213 RX5 yX5_onWall wsX5_onWall) := goodIn_app (goodIn_of _ (by decide +kernel)) ggX5_goneSet_X5_onWall
theorem dX5_goneSet_0 : decode cX5_goneSet 0 = .ok (.aload_n 0, 1) := by decide +kernel
theorem dX5_goneSet_1 : decode cX5_goneSet 1 = .ok (.bipush 10, 2) := by decide +kernel
theorem dX5_goneSet_3 : decode cX5_goneSet 3 = .ok (.invokevirtual 213, 3) := by decide +kernel
theorem dX5_goneSet_6 : decode cX5_goneSet 6 = .ok (.ireturn, 1) := by decide +kernel
set_option maxRecDepth 20000 in
theorem ggX5_usedWalls_X5_onWall : GoodIn wsX5_usedWalls wsX5_onWall := goodIn_r _ [5, 6, 7, 8, 9, 4, 10, 11, 12, 13, 14, 15, 16, 17, 18, 19, 20, 21, 22, 23, 24, 25, 26, 27, 28, 29, 30, 31, 32, 33, 34, 35, 36, 37, 38, 39, 40] (by decide +kernel) (by decide +kernel)
set_option maxRecDepth 20000 in
theorem gX5_usedWalls_X5_onWall : GoodIn wsX5_usedWalls (wsV RX5 213 RX5 yX5_onWall wsX5_onWall) := goodIn_app (goodIn_of _ (by decide +kernel)) ggX5_usedWalls_X5_onWall
theorem dX5_usedWalls_0 : decode cX5_usedWalls 0 = .ok (.iconst 0, 1) := by decide +kernel
theorem dX5_usedWalls_1 : decode cX5_usedWalls 1 = .ok (.istore_n 1, 1) := by decide +kernel
theorem dX5_usedWalls_2 : decode cX5_usedWalls 2 = .ok (.iconst 0, 1) := by decide +kernel
theorem dX5_usedWalls_3 : decode cX5_usedWalls 3 = .ok (.istore_n 2, 1) := by decide +kernel
theorem dX5_usedWalls_4 : decode cX5_usedWalls 4 = .ok (.iload_n 2, 1) := by decide +kernel
theorem dX5_usedWalls_5 : decode cX5_usedWalls 5 = .ok (.bipush 10, 2) := by decide +kernel
theorem dX5_usedWalls_7 : decode cX5_usedWalls 7 = .ok (.if_icmp .ge 27, 3) := by decide +kernel
theorem dX5_usedWalls_10 : decode cX5_usedWalls 10 = .ok (.iload_n 1, 1) := by decide +kernel
theorem dX5_usedWalls_11 : decode cX5_usedWalls 11 = .ok (.aload_n 0, 1) := by decide +kernel
theorem dX5_usedWalls_12 : decode cX5_usedWalls 12 = .ok (.iload_n 2, 1) := by decide +kernel
theorem dX5_usedWalls_13 : decode cX5_usedWalls 13 = .ok (.invokevirtual 213, 3) := by decide +kernel
theorem dX5_usedWalls_16 : decode cX5_usedWalls 16 = .ok (.ifCond .ne 7, 3) := by decide +kernel
theorem dX5_usedWalls_19 : decode cX5_usedWalls 19 = .ok (.iconst 0, 1) := by decide +kernel
theorem dX5_usedWalls_20 : decode cX5_usedWalls 20 = .ok (.goto 6, 3) := by decide +kernel
theorem dX5_usedWalls_23 : decode cX5_usedWalls 23 = .ok (.iconst 1, 1) := by decide +kernel
theorem dX5_usedWalls_24 : decode cX5_usedWalls 24 = .ok (.iload_n 2, 1) := by decide +kernel
theorem dX5_usedWalls_25 : decode cX5_usedWalls 25 = .ok (.ishl, 1) := by decide +kernel
theorem dX5_usedWalls_26 : decode cX5_usedWalls 26 = .ok (.ior, 1) := by decide +kernel
theorem dX5_usedWalls_27 : decode cX5_usedWalls 27 = .ok (.istore_n 1, 1) := by decide +kernel
theorem dX5_usedWalls_28 : decode cX5_usedWalls 28 = .ok (.iinc 2 1, 3) := by decide +kernel
theorem dX5_usedWalls_31 : decode cX5_usedWalls 31 = .ok (.goto (-27), 3) := by decide +kernel
theorem dX5_usedWalls_34 : decode cX5_usedWalls 34 = .ok (.iload_n 1, 1) := by decide +kernel
theorem dX5_usedWalls_35 : decode cX5_usedWalls 35 = .ok (.ireturn, 1) := by decide +kernel
set_option maxRecDepth 20000 in
theorem ggX5_greyWalls_X5_ground : GoodIn wsX5_greyWalls wsX5_ground := goodIn_r _ [5, 6, 7, 8, 9, 10, 11, 12, 13, 14, 15, 16, 17, 18, 19, 20, 21, 22, 23, 24, 25, 26, 27, 28, 29, 30, 31, 32, 33, 34, 35, 36] (by decide +kernel) (by decide +kernel)
set_option maxRecDepth 20000 in
theorem gX5_greyWalls_X5_ground : GoodIn wsX5_greyWalls (wsV RX5 219 RX5 yX5_ground wsX5_ground) := goodIn_app (goodIn_of _ (by decide +kernel)) ggX5_greyWalls_X5_ground
theorem dX5_greyWalls_0 : decode cX5_greyWalls 0 = .ok (.iconst 0, 1) := by decide +kernel
theorem dX5_greyWalls_1 : decode cX5_greyWalls 1 = .ok (.istore_n 1, 1) := by decide +kernel
theorem dX5_greyWalls_2 : decode cX5_greyWalls 2 = .ok (.iconst 0, 1) := by decide +kernel
theorem dX5_greyWalls_3 : decode cX5_greyWalls 3 = .ok (.istore_n 2, 1) := by decide +kernel
theorem dX5_greyWalls_4 : decode cX5_greyWalls 4 = .ok (.iload_n 2, 1) := by decide +kernel
theorem dX5_greyWalls_5 : decode cX5_greyWalls 5 = .ok (.bipush 10, 2) := by decide +kernel
theorem dX5_greyWalls_7 : decode cX5_greyWalls 7 = .ok (.if_icmp .ge 28, 3) := by decide +kernel
theorem dX5_greyWalls_10 : decode cX5_greyWalls 10 = .ok (.iload_n 1, 1) := by decide +kernel
theorem dX5_greyWalls_11 : decode cX5_greyWalls 11 = .ok (.aload_n 0, 1) := by decide +kernel
theorem dX5_greyWalls_12 : decode cX5_greyWalls 12 = .ok (.iload_n 2, 1) := by decide +kernel
theorem dX5_greyWalls_13 : decode cX5_greyWalls 13 = .ok (.invokevirtual 219, 3) := by decide +kernel
theorem dX5_greyWalls_16 : decode cX5_greyWalls 16 = .ok (.iconst 1, 1) := by decide +kernel
theorem dX5_greyWalls_17 : decode cX5_greyWalls 17 = .ok (.if_icmp .ne 9, 3) := by decide +kernel
theorem dX5_greyWalls_20 : decode cX5_greyWalls 20 = .ok (.iconst 1, 1) := by decide +kernel
theorem dX5_greyWalls_21 : decode cX5_greyWalls 21 = .ok (.iload_n 2, 1) := by decide +kernel
theorem dX5_greyWalls_22 : decode cX5_greyWalls 22 = .ok (.ishl, 1) := by decide +kernel
theorem dX5_greyWalls_23 : decode cX5_greyWalls 23 = .ok (.goto 4, 3) := by decide +kernel
theorem dX5_greyWalls_26 : decode cX5_greyWalls 26 = .ok (.iconst 0, 1) := by decide +kernel
theorem dX5_greyWalls_27 : decode cX5_greyWalls 27 = .ok (.ior, 1) := by decide +kernel
theorem dX5_greyWalls_28 : decode cX5_greyWalls 28 = .ok (.istore_n 1, 1) := by decide +kernel
theorem dX5_greyWalls_29 : decode cX5_greyWalls 29 = .ok (.iinc 2 1, 3) := by decide +kernel
theorem dX5_greyWalls_32 : decode cX5_greyWalls 32 = .ok (.goto (-28), 3) := by decide +kernel
theorem dX5_greyWalls_35 : decode cX5_greyWalls 35 = .ok (.iload_n 1, 1) := by decide +kernel
theorem dX5_greyWalls_36 : decode cX5_greyWalls 36 = .ok (.ireturn, 1) := by decide +kernel
set_option maxRecDepth 20000 in
theorem ggX5_state_X5_looksOfAll : GoodIn wsX5_state wsX5_looksOfAll := goodIn_r _ [6, 7, 8, 9, 5, 10, 1, 11, 12, 13, 14, 35, 36, 37, 38, 39, 40, 41, 42, 43, 44, 45, 46, 47, 48, 49, 50, 51, 52, 53, 54, 55, 56, 57, 58, 59, 60, 61, 62, 63, 64] (by decide +kernel) (by decide +kernel)
set_option maxRecDepth 20000 in
theorem gX5_state_X5_looksOfAll : GoodIn wsX5_state (wsV RX5 252 RX5 yX5_looksOfAll wsX5_looksOfAll) := goodIn_app (goodIn_of _ (by decide +kernel)) ggX5_state_X5_looksOfAll
set_option maxRecDepth 20000 in
theorem ggX5_state_X5_goneSet : GoodIn wsX5_state wsX5_goneSet := goodIn_r _ [18, 19, 20, 21, 5, 22, 1, 11, 12, 13, 14, 35, 36, 37, 38, 39, 40, 41, 42, 43, 44, 45, 46, 47, 48, 49, 50, 51, 52, 53, 54, 55, 56, 57, 58, 59, 60, 61, 62, 63, 64] (by decide +kernel) (by decide +kernel)
set_option maxRecDepth 20000 in
theorem gX5_state_X5_goneSet : GoodIn wsX5_state (wsV RX5 272 RX5 yX5_goneSet wsX5_goneSet) := goodIn_app (goodIn_of _ (by decide +kernel)) ggX5_state_X5_goneSet
set_option maxRecDepth 20000 in
theorem ggX5_state_X5_usedWalls : GoodIn wsX5_state wsX5_usedWalls := goodIn_r _ [26, 19, 20, 21, 5, 22, 1, 11, 12, 13, 14, 35, 36, 37, 38, 39, 40, 41, 42, 43, 44, 45, 46, 47, 48, 49, 50, 51, 52, 53, 54, 55, 56, 57, 58, 59, 60, 61, 62, 63, 64] (by decide +kernel) (by decide +kernel)
set_option maxRecDepth 20000 in
theorem gX5_state_X5_usedWalls : GoodIn wsX5_state (wsV RX5 275 RX5 yX5_usedWalls wsX5_usedWalls) := goodIn_app (goodIn_of _ (by decide +kernel)) ggX5_state_X5_usedWalls
set_option maxRecDepth 20000 in
theorem ggX5_state_X5_greyWalls : GoodIn wsX5_state wsX5_greyWalls := goodIn_r _ [30, 31, 32, 33, 5, 34, 1, 35, 36, 37, 38, 39, 40, 41, 42, 43, 44, 45, 46, 47, 48, 49, 50, 51, 52, 53, 54, 55, 56, 57, 58, 59, 60, 61, 62, 63, 64] (by decide +kernel) (by decide +kernel)
set_option maxRecDepth 20000 in
theorem gX5_state_X5_greyWalls : GoodIn wsX5_state (wsV RX5 278 RX5 yX5_greyWalls wsX5_greyWalls) := goodIn_app (goodIn_of _ (by decide +kernel)) ggX5_state_X5_greyWalls
theorem dX5_state_0 : decode cX5_state 0 = .ok (.iload_n 1, 1) := by decide +kernel
theorem dX5_state_1 : decode cX5_state 1 = .ok (.tableswitch 73 0 5 #[39, 46, 53, 58, 63, 68], 39) := by decide +kernel
theorem dX5_state_40 : decode cX5_state 40 = .ok (.aload_n 0, 1) := by decide +kernel
theorem dX5_state_41 : decode cX5_state 41 = .ok (.getfield 7, 3) := by decide +kernel
theorem dX5_state_44 : decode cX5_state 44 = .ok (.iconst 4, 1) := by decide +kernel
theorem dX5_state_45 : decode cX5_state 45 = .ok (.iaload, 1) := by decide +kernel
theorem dX5_state_46 : decode cX5_state 46 = .ok (.ireturn, 1) := by decide +kernel
theorem dX5_state_47 : decode cX5_state 47 = .ok (.aload_n 0, 1) := by decide +kernel
theorem dX5_state_48 : decode cX5_state 48 = .ok (.getfield 7, 3) := by decide +kernel
theorem dX5_state_51 : decode cX5_state 51 = .ok (.iconst 5, 1) := by decide +kernel
theorem dX5_state_52 : decode cX5_state 52 = .ok (.iaload, 1) := by decide +kernel
theorem dX5_state_53 : decode cX5_state 53 = .ok (.ireturn, 1) := by decide +kernel
theorem dX5_state_54 : decode cX5_state 54 = .ok (.aload_n 0, 1) := by decide +kernel
theorem dX5_state_55 : decode cX5_state 55 = .ok (.invokevirtual 252, 3) := by decide +kernel
theorem dX5_state_58 : decode cX5_state 58 = .ok (.ireturn, 1) := by decide +kernel
theorem dX5_state_59 : decode cX5_state 59 = .ok (.aload_n 0, 1) := by decide +kernel
theorem dX5_state_60 : decode cX5_state 60 = .ok (.invokevirtual 272, 3) := by decide +kernel
theorem dX5_state_63 : decode cX5_state 63 = .ok (.ireturn, 1) := by decide +kernel
theorem dX5_state_64 : decode cX5_state 64 = .ok (.aload_n 0, 1) := by decide +kernel
theorem dX5_state_65 : decode cX5_state 65 = .ok (.invokevirtual 275, 3) := by decide +kernel
theorem dX5_state_68 : decode cX5_state 68 = .ok (.ireturn, 1) := by decide +kernel
theorem dX5_state_69 : decode cX5_state 69 = .ok (.aload_n 0, 1) := by decide +kernel
theorem dX5_state_70 : decode cX5_state 70 = .ok (.invokevirtual 278, 3) := by decide +kernel
theorem dX5_state_73 : decode cX5_state 73 = .ok (.ireturn, 1) := by decide +kernel
theorem dX5_state_74 : decode cX5_state 74 = .ok (.iconst (-1), 1) := by decide +kernel
theorem dX5_state_75 : decode cX5_state 75 = .ok (.ireturn, 1) := by decide +kernel
set_option maxRecDepth 20000 in
theorem ggX5_viewedBy_X5_nightGoes : GoodIn wsX5_viewedBy wsX5_nightGoes := goodIn_r _ [8, 3, 9, 1, 10, 11, 12, 13, 7, 14, 15, 16, 17, 18, 19, 20, 21, 22, 23, 24, 25, 26, 27, 28, 29, 30, 31, 32, 33, 34, 35, 36, 37, 38, 39, 40, 41, 42, 43, 44, 45, 46, 47, 48, 49, 50, 51, 52, 53, 54, 55, 56, 57, 58, 59, 60, 61, 62, 63, 64, 65, 66, 67, 68, 69, 70, 71, 72, 76, 77, 78, 79, 80, 81, 82, 83, 84, 85, 86, 87, 88, 89, 90, 91, 92, 93, 94, 95, 96, 97, 98, 99, 100, 101, 102, 103, 104, 105] (by decide +kernel) (by decide +kernel)
set_option maxRecDepth 20000 in
theorem gX5_viewedBy_X5_nightGoes : GoodIn wsX5_viewedBy (wsV RX5 259 RX5 yX5_nightGoes wsX5_nightGoes) := goodIn_app (goodIn_of _ (by decide +kernel)) ggX5_viewedBy_X5_nightGoes
set_option maxRecDepth 20000 in
theorem ggX5_viewedBy_X5_moveAll : GoodIn wsX5_viewedBy wsX5_moveAll := goodIn_r _ [75] (by decide +kernel) (by decide +kernel)
set_option maxRecDepth 20000 in
theorem gX5_viewedBy_X5_moveAll : GoodIn wsX5_viewedBy (va_wsS RX5 186 yX5_moveAll wsX5_moveAll) := goodIn_app (goodIn_of _ (by decide +kernel)) ggX5_viewedBy_X5_moveAll
theorem dX5_viewedBy_0 : decode cX5_viewedBy 0 = .ok (.aload_n 0, 1) := by decide +kernel
theorem dX5_viewedBy_1 : decode cX5_viewedBy 1 = .ok (.iconst 0, 1) := by decide +kernel
theorem dX5_viewedBy_2 : decode cX5_viewedBy 2 = .ok (.putfield 255, 3) := by decide +kernel
theorem dX5_viewedBy_5 : decode cX5_viewedBy 5 = .ok (.iconst 0, 1) := by decide +kernel
theorem dX5_viewedBy_6 : decode cX5_viewedBy 6 = .ok (.istore_n 2, 1) := by decide +kernel
theorem dX5_viewedBy_7 : decode cX5_viewedBy 7 = .ok (.iload_n 2, 1) := by decide +kernel
theorem dX5_viewedBy_8 : decode cX5_viewedBy 8 = .ok (.iload_n 1, 1) := by decide +kernel
theorem dX5_viewedBy_9 : decode cX5_viewedBy 9 = .ok (.if_icmp .ge 13, 3) := by decide +kernel
theorem dX5_viewedBy_12 : decode cX5_viewedBy 12 = .ok (.aload_n 0, 1) := by decide +kernel
theorem dX5_viewedBy_13 : decode cX5_viewedBy 13 = .ok (.invokevirtual 259, 3) := by decide +kernel
theorem dX5_viewedBy_16 : decode cX5_viewedBy 16 = .ok (.iinc 2 1, 3) := by decide +kernel
theorem dX5_viewedBy_19 : decode cX5_viewedBy 19 = .ok (.goto (-12), 3) := by decide +kernel
theorem dX5_viewedBy_22 : decode cX5_viewedBy 22 = .ok (.aload_n 0, 1) := by decide +kernel
theorem dX5_viewedBy_23 : decode cX5_viewedBy 23 = .ok (.getfield 255, 3) := by decide +kernel
theorem dX5_viewedBy_26 : decode cX5_viewedBy 26 = .ok (.istore_n 2, 1) := by decide +kernel
theorem dX5_viewedBy_27 : decode cX5_viewedBy 27 = .ok (.aload_n 0, 1) := by decide +kernel
theorem dX5_viewedBy_28 : decode cX5_viewedBy 28 = .ok (.iconst 0, 1) := by decide +kernel
theorem dX5_viewedBy_29 : decode cX5_viewedBy 29 = .ok (.putfield 255, 3) := by decide +kernel
theorem dX5_viewedBy_32 : decode cX5_viewedBy 32 = .ok (.aload_n 0, 1) := by decide +kernel
theorem dX5_viewedBy_33 : decode cX5_viewedBy 33 = .ok (.getfield 19, 3) := by decide +kernel
theorem dX5_viewedBy_36 : decode cX5_viewedBy 36 = .ok (.aload_n 0, 1) := by decide +kernel
theorem dX5_viewedBy_37 : decode cX5_viewedBy 37 = .ok (.getfield 7, 3) := by decide +kernel
theorem dX5_viewedBy_40 : decode cX5_viewedBy 40 = .ok (.invokestatic 186, 3) := by decide +kernel
theorem dX5_viewedBy_43 : decode cX5_viewedBy 43 = .ok (.iload_n 2, 1) := by decide +kernel
theorem dX5_viewedBy_44 : decode cX5_viewedBy 44 = .ok (.ireturn, 1) := by decide +kernel
set_option maxRecDepth 20000 in
theorem ggX5_view_X5_in : GoodIn wsX5_view wsX5_in := goodIn_r _ [6] (by decide +kernel) (by decide +kernel)
set_option maxRecDepth 20000 in
theorem gX5_view_X5_in : GoodIn wsX5_view (va_wsS RX5 60 yX5_in wsX5_in) := goodIn_app (goodIn_of _ (by decide +kernel)) ggX5_view_X5_in
set_option maxRecDepth 20000 in
theorem ggX5_view_X5_moveAll : GoodIn wsX5_view wsX5_moveAll := goodIn_r _ [9] (by decide +kernel) (by decide +kernel)
set_option maxRecDepth 20000 in
theorem gX5_view_X5_moveAll : GoodIn wsX5_view (va_wsS RX5 186 yX5_moveAll wsX5_moveAll) := goodIn_app (goodIn_of _ (by decide +kernel)) ggX5_view_X5_moveAll
set_option maxRecDepth 20000 in
theorem ggX5_view_X5_viewedBy : GoodIn wsX5_view wsX5_viewedBy := goodIn_r _ [13, 14, 2, 1, 15, 16, 17, 5, 18, 19, 20, 21, 22, 23, 24, 25, 26, 27, 28, 29, 30, 31, 32, 33, 34, 35, 36, 37, 38, 39, 40, 41, 42, 43, 44, 45, 46, 47, 48, 49, 50, 51, 52, 53, 54, 55, 56, 57, 58, 59, 60, 61, 62, 63, 64, 65, 66, 67, 68, 69, 70, 71, 72, 73, 74, 75, 76, 77, 78, 79, 80, 81, 82, 7, 8, 9, 83, 84, 85, 86, 87, 88, 89, 90, 91, 92, 93, 94, 95, 96, 97, 98, 99, 100, 101, 102, 103, 104, 105, 106, 107, 108, 109, 110, 111, 112] (by decide +kernel) (by decide +kernel)
set_option maxRecDepth 20000 in
theorem gX5_view_X5_viewedBy : GoodIn wsX5_view (wsV RX5 269 RX5 yX5_viewedBy wsX5_viewedBy) := goodIn_app (goodIn_of _ (by decide +kernel)) ggX5_view_X5_viewedBy
theorem dX5_view_0 : decode cX5_view 0 = .ok (.iload_n 1, 1) := by decide +kernel
theorem dX5_view_1 : decode cX5_view 1 = .ok (.iconst 0, 1) := by decide +kernel
theorem dX5_view_2 : decode cX5_view 2 = .ok (.bipush 60, 2) := by decide +kernel
theorem dX5_view_4 : decode cX5_view 4 = .ok (.invokestatic 60, 3) := by decide +kernel
theorem dX5_view_7 : decode cX5_view 7 = .ok (.ifCond .ne 5, 3) := by decide +kernel
theorem dX5_view_10 : decode cX5_view 10 = .ok (.iconst (-1), 1) := by decide +kernel
theorem dX5_view_11 : decode cX5_view 11 = .ok (.ireturn, 1) := by decide +kernel
theorem dX5_view_12 : decode cX5_view 12 = .ok (.aload_n 0, 1) := by decide +kernel
theorem dX5_view_13 : decode cX5_view 13 = .ok (.getfield 7, 3) := by decide +kernel
theorem dX5_view_16 : decode cX5_view 16 = .ok (.aload_n 0, 1) := by decide +kernel
theorem dX5_view_17 : decode cX5_view 17 = .ok (.getfield 19, 3) := by decide +kernel
theorem dX5_view_20 : decode cX5_view 20 = .ok (.invokestatic 186, 3) := by decide +kernel
theorem dX5_view_23 : decode cX5_view 23 = .ok (.aload_n 0, 1) := by decide +kernel
theorem dX5_view_24 : decode cX5_view 24 = .ok (.iload_n 1, 1) := by decide +kernel
theorem dX5_view_25 : decode cX5_view 25 = .ok (.invokevirtual 269, 3) := by decide +kernel
theorem dX5_view_28 : decode cX5_view 28 = .ok (.ireturn, 1) := by decide +kernel
set_option maxRecDepth 20000 in
theorem ggX5_whenGone_X5_moveAll : GoodIn wsX5_whenGone wsX5_moveAll := goodIn_r _ [6] (by decide +kernel) (by decide +kernel)
set_option maxRecDepth 20000 in
theorem gX5_whenGone_X5_moveAll : GoodIn wsX5_whenGone (va_wsS RX5 186 yX5_moveAll wsX5_moveAll) := goodIn_app (goodIn_of _ (by decide +kernel)) ggX5_whenGone_X5_moveAll
set_option maxRecDepth 20000 in
theorem ggX5_whenGone_X5_isGone : GoodIn wsX5_whenGone wsX5_isGone := goodIn_r _ [10, 11, 12, 13, 5, 14, 1, 76, 77, 78, 79, 80, 81, 82, 83, 84, 85, 86, 87, 88, 89, 90, 91, 92, 93, 94, 95, 96, 97, 98, 99, 100, 101, 102, 103, 104, 105] (by decide +kernel) (by decide +kernel)
set_option maxRecDepth 20000 in
theorem gX5_whenGone_X5_isGone : GoodIn wsX5_whenGone (wsV RX5 228 RX5 yX5_isGone wsX5_isGone) := goodIn_app (goodIn_of _ (by decide +kernel)) ggX5_whenGone_X5_isGone
set_option maxRecDepth 20000 in
theorem ggX5_whenGone_X5_nightGoes : GoodIn wsX5_whenGone wsX5_nightGoes := goodIn_r _ [18, 1, 19, 20, 21, 7, 8, 9, 5, 10, 11, 12, 13, 14, 22, 23, 24, 25, 26, 27, 28, 29, 30, 31, 32, 33, 34, 35, 36, 37, 38, 39, 40, 41, 42, 43, 44, 45, 46, 47, 48, 49, 50, 51, 52, 53, 54, 55, 56, 57, 58, 59, 60, 61, 62, 63, 64, 65, 66, 67, 68, 69, 70, 71, 72, 73, 74, 75, 76, 77, 78, 79, 80, 81, 82, 83, 84, 85, 86, 87, 88, 89, 90, 91, 92, 93, 94, 95, 96, 97, 98, 99, 100, 101, 102, 103, 104, 105] (by decide +kernel) (by decide +kernel)
set_option maxRecDepth 20000 in
theorem gX5_whenGone_X5_nightGoes : GoodIn wsX5_whenGone (wsV RX5 259 RX5 yX5_nightGoes wsX5_nightGoes) := goodIn_app (goodIn_of _ (by decide +kernel)) ggX5_whenGone_X5_nightGoes
theorem dX5_whenGone_0 : decode cX5_whenGone 0 = .ok (.aload_n 0, 1) := by decide +kernel
theorem dX5_whenGone_1 : decode cX5_whenGone 1 = .ok (.getfield 7, 3) := by decide +kernel
theorem dX5_whenGone_4 : decode cX5_whenGone 4 = .ok (.aload_n 0, 1) := by decide +kernel
theorem dX5_whenGone_5 : decode cX5_whenGone 5 = .ok (.getfield 19, 3) := by decide +kernel
theorem dX5_whenGone_8 : decode cX5_whenGone 8 = .ok (.invokestatic 186, 3) := by decide +kernel
theorem dX5_whenGone_11 : decode cX5_whenGone 11 = .ok (.iconst 0, 1) := by decide +kernel
theorem dX5_whenGone_12 : decode cX5_whenGone 12 = .ok (.istore_n 3, 1) := by decide +kernel
theorem dX5_whenGone_13 : decode cX5_whenGone 13 = .ok (.iload_n 3, 1) := by decide +kernel
theorem dX5_whenGone_14 : decode cX5_whenGone 14 = .ok (.bipush 60, 2) := by decide +kernel
theorem dX5_whenGone_16 : decode cX5_whenGone 16 = .ok (.if_icmp .gt 22, 3) := by decide +kernel
theorem dX5_whenGone_19 : decode cX5_whenGone 19 = .ok (.aload_n 0, 1) := by decide +kernel
theorem dX5_whenGone_20 : decode cX5_whenGone 20 = .ok (.iload_n 1, 1) := by decide +kernel
theorem dX5_whenGone_21 : decode cX5_whenGone 21 = .ok (.invokevirtual 228, 3) := by decide +kernel
theorem dX5_whenGone_24 : decode cX5_whenGone 24 = .ok (.iload_n 2, 1) := by decide +kernel
theorem dX5_whenGone_25 : decode cX5_whenGone 25 = .ok (.if_icmp .eq 13, 3) := by decide +kernel
theorem dX5_whenGone_28 : decode cX5_whenGone 28 = .ok (.aload_n 0, 1) := by decide +kernel
theorem dX5_whenGone_29 : decode cX5_whenGone 29 = .ok (.invokevirtual 259, 3) := by decide +kernel
theorem dX5_whenGone_32 : decode cX5_whenGone 32 = .ok (.iinc 3 1, 3) := by decide +kernel
theorem dX5_whenGone_35 : decode cX5_whenGone 35 = .ok (.goto (-22), 3) := by decide +kernel
theorem dX5_whenGone_38 : decode cX5_whenGone 38 = .ok (.aload_n 0, 1) := by decide +kernel
theorem dX5_whenGone_39 : decode cX5_whenGone 39 = .ok (.getfield 19, 3) := by decide +kernel
theorem dX5_whenGone_42 : decode cX5_whenGone 42 = .ok (.aload_n 0, 1) := by decide +kernel
theorem dX5_whenGone_43 : decode cX5_whenGone 43 = .ok (.getfield 7, 3) := by decide +kernel
theorem dX5_whenGone_46 : decode cX5_whenGone 46 = .ok (.invokestatic 186, 3) := by decide +kernel
theorem dX5_whenGone_49 : decode cX5_whenGone 49 = .ok (.iload_n 3, 1) := by decide +kernel
theorem dX5_whenGone_50 : decode cX5_whenGone 50 = .ok (.bipush 60, 2) := by decide +kernel
theorem dX5_whenGone_52 : decode cX5_whenGone 52 = .ok (.if_icmp .le 8, 3) := by decide +kernel
theorem dX5_whenGone_55 : decode cX5_whenGone 55 = .ok (.bipush (-3), 2) := by decide +kernel
theorem dX5_whenGone_57 : decode cX5_whenGone 57 = .ok (.goto 4, 3) := by decide +kernel
theorem dX5_whenGone_60 : decode cX5_whenGone 60 = .ok (.iload_n 3, 1) := by decide +kernel
theorem dX5_whenGone_61 : decode cX5_whenGone 61 = .ok (.ireturn, 1) := by decide +kernel
set_option maxRecDepth 20000 in
theorem ggX5_stays_X5_isOne : GoodIn wsX5_stays wsX5_isOne := goodIn_r _ [5, 6, 7, 8, 4, 9, 87, 88, 89, 90, 91, 92, 93, 94, 95, 96, 97, 98, 99, 100, 101, 102, 103, 104, 105, 106, 107, 108, 109, 110, 111, 112, 113, 114, 115, 116] (by decide +kernel) (by decide +kernel)
set_option maxRecDepth 20000 in
theorem gX5_stays_X5_isOne : GoodIn wsX5_stays (wsV RX5 207 RX5 yX5_isOne wsX5_isOne) := goodIn_app (goodIn_of _ (by decide +kernel)) ggX5_stays_X5_isOne
set_option maxRecDepth 20000 in
theorem ggX5_stays_X5_whenGone : GoodIn wsX5_stays wsX5_whenGone := goodIn_r _ [13, 6, 14, 15, 16, 4, 17, 18, 19, 20, 21, 22, 23, 24, 25, 26, 27, 28, 29, 30, 31, 32, 33, 34, 35, 36, 37, 38, 39, 40, 41, 42, 43, 44, 45, 46, 47, 48, 49, 50, 51, 52, 53, 54, 55, 56, 57, 58, 59, 60, 61, 62, 63, 64, 65, 66, 67, 68, 69, 70, 71, 72, 73, 74, 75, 76, 77, 78, 79, 80, 81, 82, 83, 84, 85, 86, 87, 88, 89, 90, 91, 92, 93, 94, 95, 96, 97, 98, 99, 100, 101, 102, 103, 104, 105, 106, 107, 108, 109, 110, 111, 112, 113, 114, 115, 116] (by decide +kernel) (by decide +kernel)
set_option maxRecDepth 20000 in
theorem gX5_stays_X5_whenGone : GoodIn wsX5_stays (wsV RX5 281 RX5 yX5_whenGone wsX5_whenGone) := goodIn_app (goodIn_of _ (by decide +kernel)) ggX5_stays_X5_whenGone
theorem dX5_stays_0 : decode cX5_stays 0 = .ok (.aload_n 0, 1) := by decide +kernel
theorem dX5_stays_1 : decode cX5_stays 1 = .ok (.iload_n 1, 1) := by decide +kernel
theorem dX5_stays_2 : decode cX5_stays 2 = .ok (.invokevirtual 207, 3) := by decide +kernel
theorem dX5_stays_5 : decode cX5_stays 5 = .ok (.ifCond .eq 12, 3) := by decide +kernel
theorem dX5_stays_8 : decode cX5_stays 8 = .ok (.aload_n 0, 1) := by decide +kernel
theorem dX5_stays_9 : decode cX5_stays 9 = .ok (.iload_n 1, 1) := by decide +kernel
theorem dX5_stays_10 : decode cX5_stays 10 = .ok (.iconst 1, 1) := by decide +kernel
theorem dX5_stays_11 : decode cX5_stays 11 = .ok (.invokevirtual 281, 3) := by decide +kernel
theorem dX5_stays_14 : decode cX5_stays 14 = .ok (.goto 4, 3) := by decide +kernel
theorem dX5_stays_17 : decode cX5_stays 17 = .ok (.iconst (-1), 1) := by decide +kernel
theorem dX5_stays_18 : decode cX5_stays 18 = .ok (.ireturn, 1) := by decide +kernel
set_option maxRecDepth 20000 in
theorem ggX5_comes_X5_isOne : GoodIn wsX5_comes wsX5_isOne := goodIn_r _ [5, 6, 7, 8, 4, 9, 87, 88, 89, 90, 91, 92, 93, 94, 95, 96, 97, 98, 99, 100, 101, 102, 103, 104, 105, 106, 107, 108, 109, 110, 111, 112, 113, 114, 115, 116] (by decide +kernel) (by decide +kernel)
set_option maxRecDepth 20000 in
theorem gX5_comes_X5_isOne : GoodIn wsX5_comes (wsV RX5 207 RX5 yX5_isOne wsX5_isOne) := goodIn_app (goodIn_of _ (by decide +kernel)) ggX5_comes_X5_isOne
set_option maxRecDepth 20000 in
theorem ggX5_comes_X5_whenGone : GoodIn wsX5_comes wsX5_whenGone := goodIn_r _ [13, 6, 14, 15, 16, 4, 17, 18, 19, 20, 21, 22, 23, 24, 25, 26, 27, 28, 29, 30, 31, 32, 33, 34, 35, 36, 37, 38, 39, 40, 41, 42, 43, 44, 45, 46, 47, 48, 49, 50, 51, 52, 53, 54, 55, 56, 57, 58, 59, 60, 61, 62, 63, 64, 65, 66, 67, 68, 69, 70, 71, 72, 73, 74, 75, 76, 77, 78, 79, 80, 81, 82, 83, 84, 85, 86, 87, 88, 89, 90, 91, 92, 93, 94, 95, 96, 97, 98, 99, 100, 101, 102, 103, 104, 105, 106, 107, 108, 109, 110, 111, 112, 113, 114, 115, 116] (by decide +kernel) (by decide +kernel)
set_option maxRecDepth 20000 in
theorem gX5_comes_X5_whenGone : GoodIn wsX5_comes (wsV RX5 281 RX5 yX5_whenGone wsX5_whenGone) := goodIn_app (goodIn_of _ (by decide +kernel)) ggX5_comes_X5_whenGone
theorem dX5_comes_0 : decode cX5_comes 0 = .ok (.aload_n 0, 1) := by decide +kernel
theorem dX5_comes_1 : decode cX5_comes 1 = .ok (.iload_n 1, 1) := by decide +kernel
theorem dX5_comes_2 : decode cX5_comes 2 = .ok (.invokevirtual 207, 3) := by decide +kernel
theorem dX5_comes_5 : decode cX5_comes 5 = .ok (.ifCond .eq 12, 3) := by decide +kernel
theorem dX5_comes_8 : decode cX5_comes 8 = .ok (.aload_n 0, 1) := by decide +kernel
theorem dX5_comes_9 : decode cX5_comes 9 = .ok (.iload_n 1, 1) := by decide +kernel
theorem dX5_comes_10 : decode cX5_comes 10 = .ok (.iconst 0, 1) := by decide +kernel
theorem dX5_comes_11 : decode cX5_comes 11 = .ok (.invokevirtual 281, 3) := by decide +kernel
theorem dX5_comes_14 : decode cX5_comes 14 = .ok (.goto 4, 3) := by decide +kernel
theorem dX5_comes_17 : decode cX5_comes 17 = .ok (.iconst (-1), 1) := by decide +kernel
theorem dX5_comes_18 : decode cX5_comes 18 = .ok (.ireturn, 1) := by decide +kernel
set_option maxRecDepth 20000 in
theorem ggX5_clear_X5_moveAll : GoodIn wsX5_clear wsX5_moveAll := goodIn_r _ [6] (by decide +kernel) (by decide +kernel)
set_option maxRecDepth 20000 in
theorem gX5_clear_X5_moveAll : GoodIn wsX5_clear (va_wsS RX5 186 yX5_moveAll wsX5_moveAll) := goodIn_app (goodIn_of _ (by decide +kernel)) ggX5_clear_X5_moveAll
set_option maxRecDepth 20000 in
theorem ggX5_clear_X5_looksOfAll : GoodIn wsX5_clear wsX5_looksOfAll := goodIn_r _ [10, 11, 12, 13, 5, 14, 1, 15, 16, 17, 18, 76, 77, 78, 79, 80, 81, 82, 83, 84, 85, 86, 87, 88, 89, 90, 91, 92, 93, 94, 95, 96, 97, 98, 99, 100, 101, 102, 103, 104, 105] (by decide +kernel) (by decide +kernel)
set_option maxRecDepth 20000 in
theorem gX5_clear_X5_looksOfAll : GoodIn wsX5_clear (wsV RX5 252 RX5 yX5_looksOfAll wsX5_looksOfAll) := goodIn_app (goodIn_of _ (by decide +kernel)) ggX5_clear_X5_looksOfAll
set_option maxRecDepth 20000 in
theorem ggX5_clear_X5_nightGoes : GoodIn wsX5_clear wsX5_nightGoes := goodIn_r _ [22, 1, 23, 24, 25, 26, 27, 28, 5, 29, 15, 16, 17, 18, 30, 31, 32, 33, 34, 35, 36, 37, 38, 39, 40, 41, 42, 43, 44, 45, 46, 47, 48, 49, 50, 51, 52, 53, 54, 55, 56, 57, 58, 59, 60, 61, 62, 63, 64, 65, 66, 67, 11, 12, 13, 14, 68, 69, 70, 71, 72, 73, 74, 75, 7, 8, 9, 10, 76, 77, 78, 79, 80, 81, 82, 83, 84, 85, 86, 87, 88, 89, 90, 91, 92, 93, 94, 95, 96, 97, 98, 99, 100, 101, 102, 103, 104, 105] (by decide +kernel) (by decide +kernel)
set_option maxRecDepth 20000 in
theorem gX5_clear_X5_nightGoes : GoodIn wsX5_clear (wsV RX5 259 RX5 yX5_nightGoes wsX5_nightGoes) := goodIn_app (goodIn_of _ (by decide +kernel)) ggX5_clear_X5_nightGoes
theorem dX5_clear_0 : decode cX5_clear 0 = .ok (.aload_n 0, 1) := by decide +kernel
theorem dX5_clear_1 : decode cX5_clear 1 = .ok (.getfield 7, 3) := by decide +kernel
theorem dX5_clear_4 : decode cX5_clear 4 = .ok (.aload_n 0, 1) := by decide +kernel
theorem dX5_clear_5 : decode cX5_clear 5 = .ok (.getfield 19, 3) := by decide +kernel
theorem dX5_clear_8 : decode cX5_clear 8 = .ok (.invokestatic 186, 3) := by decide +kernel
theorem dX5_clear_11 : decode cX5_clear 11 = .ok (.iconst 0, 1) := by decide +kernel
theorem dX5_clear_12 : decode cX5_clear 12 = .ok (.istore_n 1, 1) := by decide +kernel
theorem dX5_clear_13 : decode cX5_clear 13 = .ok (.iload_n 1, 1) := by decide +kernel
theorem dX5_clear_14 : decode cX5_clear 14 = .ok (.bipush 60, 2) := by decide +kernel
theorem dX5_clear_16 : decode cX5_clear 16 = .ok (.if_icmp .gt 20, 3) := by decide +kernel
theorem dX5_clear_19 : decode cX5_clear 19 = .ok (.aload_n 0, 1) := by decide +kernel
theorem dX5_clear_20 : decode cX5_clear 20 = .ok (.invokevirtual 252, 3) := by decide +kernel
theorem dX5_clear_23 : decode cX5_clear 23 = .ok (.ifCond .le 13, 3) := by decide +kernel
theorem dX5_clear_26 : decode cX5_clear 26 = .ok (.aload_n 0, 1) := by decide +kernel
theorem dX5_clear_27 : decode cX5_clear 27 = .ok (.invokevirtual 259, 3) := by decide +kernel
theorem dX5_clear_30 : decode cX5_clear 30 = .ok (.iinc 1 1, 3) := by decide +kernel
theorem dX5_clear_33 : decode cX5_clear 33 = .ok (.goto (-20), 3) := by decide +kernel
theorem dX5_clear_36 : decode cX5_clear 36 = .ok (.aload_n 0, 1) := by decide +kernel
theorem dX5_clear_37 : decode cX5_clear 37 = .ok (.getfield 19, 3) := by decide +kernel
theorem dX5_clear_40 : decode cX5_clear 40 = .ok (.aload_n 0, 1) := by decide +kernel
theorem dX5_clear_41 : decode cX5_clear 41 = .ok (.getfield 7, 3) := by decide +kernel
theorem dX5_clear_44 : decode cX5_clear 44 = .ok (.invokestatic 186, 3) := by decide +kernel
theorem dX5_clear_47 : decode cX5_clear 47 = .ok (.iload_n 1, 1) := by decide +kernel
theorem dX5_clear_48 : decode cX5_clear 48 = .ok (.bipush 60, 2) := by decide +kernel
theorem dX5_clear_50 : decode cX5_clear 50 = .ok (.if_icmp .le 8, 3) := by decide +kernel
theorem dX5_clear_53 : decode cX5_clear 53 = .ok (.bipush (-3), 2) := by decide +kernel
theorem dX5_clear_55 : decode cX5_clear 55 = .ok (.goto 4, 3) := by decide +kernel
theorem dX5_clear_58 : decode cX5_clear 58 = .ok (.iload_n 1, 1) := by decide +kernel
theorem dX5_clear_59 : decode cX5_clear 59 = .ok (.ireturn, 1) := by decide +kernel
set_option maxRecDepth 20000 in
theorem ggX5_firstFor_X5_in : GoodIn wsX5_firstFor wsX5_in := goodIn_r _ [6] (by decide +kernel) (by decide +kernel)
set_option maxRecDepth 20000 in
theorem gX5_firstFor_X5_in : GoodIn wsX5_firstFor (va_wsS RX5 60 yX5_in wsX5_in) := goodIn_app (goodIn_of _ (by decide +kernel)) ggX5_firstFor_X5_in
set_option maxRecDepth 20000 in
theorem ggX5_firstFor_X5_moveAll : GoodIn wsX5_firstFor wsX5_moveAll := goodIn_r _ [9] (by decide +kernel) (by decide +kernel)
set_option maxRecDepth 20000 in
theorem gX5_firstFor_X5_moveAll : GoodIn wsX5_firstFor (va_wsS RX5 186 yX5_moveAll wsX5_moveAll) := goodIn_app (goodIn_of _ (by decide +kernel)) ggX5_firstFor_X5_moveAll
set_option maxRecDepth 20000 in
theorem ggX5_firstFor_X5_cleaned : GoodIn wsX5_firstFor wsX5_cleaned := goodIn_r _ [13, 1, 14, 15, 16, 5, 17, 18, 19, 20, 21, 22, 23, 24, 25, 26, 27, 28, 29, 30, 31, 32, 33, 34, 35, 36, 37, 38, 39, 40, 83, 84, 85, 86, 87, 88, 89, 90, 91, 92, 93, 94, 95, 96, 97, 98, 99, 100, 101, 102, 103, 104, 105, 106, 107, 108, 109, 110, 111, 112] (by decide +kernel) (by decide +kernel)
set_option maxRecDepth 20000 in
theorem gX5_firstFor_X5_cleaned : GoodIn wsX5_firstFor (wsV RX5 239 RX5 yX5_cleaned wsX5_cleaned) := goodIn_app (goodIn_of _ (by decide +kernel)) ggX5_firstFor_X5_cleaned
set_option maxRecDepth 20000 in
theorem ggX5_firstFor_X5_viewedBy : GoodIn wsX5_firstFor wsX5_viewedBy := goodIn_r _ [44, 45, 2, 1, 46, 47, 48, 5, 49, 50, 51, 52, 53, 54, 55, 18, 19, 20, 21, 56, 57, 58, 59, 60, 61, 62, 37, 38, 39, 40, 63, 64, 65, 66, 67, 68, 69, 70, 14, 15, 16, 17, 26, 27, 28, 29, 30, 31, 32, 33, 34, 35, 36, 71, 72, 73, 74, 75, 76, 77, 78, 10, 11, 12, 13, 22, 23, 24, 25, 79, 80, 81, 82, 7, 8, 9, 83, 84, 85, 86, 87, 88, 89, 90, 91, 92, 93, 94, 95, 96, 97, 98, 99, 100, 101, 102, 103, 104, 105, 106, 107, 108, 109, 110, 111, 112] (by decide +kernel) (by decide +kernel)
set_option maxRecDepth 20000 in
theorem gX5_firstFor_X5_viewedBy : GoodIn wsX5_firstFor (wsV RX5 269 RX5 yX5_viewedBy wsX5_viewedBy) := goodIn_app (goodIn_of _ (by decide +kernel)) ggX5_firstFor_X5_viewedBy
theorem dX5_firstFor_0 : decode cX5_firstFor 0 = .ok (.iload_n 1, 1) := by decide +kernel
theorem dX5_firstFor_1 : decode cX5_firstFor 1 = .ok (.iconst 1, 1) := by decide +kernel
theorem dX5_firstFor_2 : decode cX5_firstFor 2 = .ok (.bipush 30, 2) := by decide +kernel
theorem dX5_firstFor_4 : decode cX5_firstFor 4 = .ok (.invokestatic 60, 3) := by decide +kernel
theorem dX5_firstFor_7 : decode cX5_firstFor 7 = .ok (.ifCond .ne 5, 3) := by decide +kernel
theorem dX5_firstFor_10 : decode cX5_firstFor 10 = .ok (.iconst (-1), 1) := by decide +kernel
theorem dX5_firstFor_11 : decode cX5_firstFor 11 = .ok (.ireturn, 1) := by decide +kernel
theorem dX5_firstFor_12 : decode cX5_firstFor 12 = .ok (.aload_n 0, 1) := by decide +kernel
theorem dX5_firstFor_13 : decode cX5_firstFor 13 = .ok (.getfield 7, 3) := by decide +kernel
theorem dX5_firstFor_16 : decode cX5_firstFor 16 = .ok (.aload_n 0, 1) := by decide +kernel
theorem dX5_firstFor_17 : decode cX5_firstFor 17 = .ok (.getfield 19, 3) := by decide +kernel
theorem dX5_firstFor_20 : decode cX5_firstFor 20 = .ok (.invokestatic 186, 3) := by decide +kernel
theorem dX5_firstFor_23 : decode cX5_firstFor 23 = .ok (.iconst 0, 1) := by decide +kernel
theorem dX5_firstFor_24 : decode cX5_firstFor 24 = .ok (.istore_n 2, 1) := by decide +kernel
theorem dX5_firstFor_25 : decode cX5_firstFor 25 = .ok (.iconst (-1), 1) := by decide +kernel
theorem dX5_firstFor_26 : decode cX5_firstFor 26 = .ok (.istore_n 3, 1) := by decide +kernel
theorem dX5_firstFor_27 : decode cX5_firstFor 27 = .ok (.iconst 0, 1) := by decide +kernel
theorem dX5_firstFor_28 : decode cX5_firstFor 28 = .ok (.istore 4, 2) := by decide +kernel
theorem dX5_firstFor_30 : decode cX5_firstFor 30 = .ok (.iload 4, 2) := by decide +kernel
theorem dX5_firstFor_32 : decode cX5_firstFor 32 = .ok (.bipush 10, 2) := by decide +kernel
theorem dX5_firstFor_34 : decode cX5_firstFor 34 = .ok (.if_icmp .ge 57, 3) := by decide +kernel
theorem dX5_firstFor_37 : decode cX5_firstFor 37 = .ok (.aload_n 0, 1) := by decide +kernel
theorem dX5_firstFor_38 : decode cX5_firstFor 38 = .ok (.iload 4, 2) := by decide +kernel
theorem dX5_firstFor_40 : decode cX5_firstFor 40 = .ok (.invokevirtual 239, 3) := by decide +kernel
theorem dX5_firstFor_43 : decode cX5_firstFor 43 = .ok (.pop, 1) := by decide +kernel
theorem dX5_firstFor_44 : decode cX5_firstFor 44 = .ok (.aload_n 0, 1) := by decide +kernel
theorem dX5_firstFor_45 : decode cX5_firstFor 45 = .ok (.iload_n 1, 1) := by decide +kernel
theorem dX5_firstFor_46 : decode cX5_firstFor 46 = .ok (.invokevirtual 269, 3) := by decide +kernel
theorem dX5_firstFor_49 : decode cX5_firstFor 49 = .ok (.istore 5, 2) := by decide +kernel
theorem dX5_firstFor_51 : decode cX5_firstFor 51 = .ok (.iload_n 3, 1) := by decide +kernel
theorem dX5_firstFor_52 : decode cX5_firstFor 52 = .ok (.ifCond .lt 9, 3) := by decide +kernel
theorem dX5_firstFor_55 : decode cX5_firstFor 55 = .ok (.iload 5, 2) := by decide +kernel
theorem dX5_firstFor_57 : decode cX5_firstFor 57 = .ok (.iload_n 3, 1) := by decide +kernel
theorem dX5_firstFor_58 : decode cX5_firstFor 58 = .ok (.if_icmp .ge 8, 3) := by decide +kernel
theorem dX5_firstFor_61 : decode cX5_firstFor 61 = .ok (.iload 4, 2) := by decide +kernel
theorem dX5_firstFor_63 : decode cX5_firstFor 63 = .ok (.goto 4, 3) := by decide +kernel
theorem dX5_firstFor_66 : decode cX5_firstFor 66 = .ok (.iload_n 2, 1) := by decide +kernel
theorem dX5_firstFor_67 : decode cX5_firstFor 67 = .ok (.istore_n 2, 1) := by decide +kernel
theorem dX5_firstFor_68 : decode cX5_firstFor 68 = .ok (.iload_n 3, 1) := by decide +kernel
theorem dX5_firstFor_69 : decode cX5_firstFor 69 = .ok (.ifCond .lt 9, 3) := by decide +kernel
theorem dX5_firstFor_72 : decode cX5_firstFor 72 = .ok (.iload 5, 2) := by decide +kernel
theorem dX5_firstFor_74 : decode cX5_firstFor 74 = .ok (.iload_n 3, 1) := by decide +kernel
theorem dX5_firstFor_75 : decode cX5_firstFor 75 = .ok (.if_icmp .ge 8, 3) := by decide +kernel
theorem dX5_firstFor_78 : decode cX5_firstFor 78 = .ok (.iload 5, 2) := by decide +kernel
theorem dX5_firstFor_80 : decode cX5_firstFor 80 = .ok (.goto 4, 3) := by decide +kernel
theorem dX5_firstFor_83 : decode cX5_firstFor 83 = .ok (.iload_n 3, 1) := by decide +kernel
theorem dX5_firstFor_84 : decode cX5_firstFor 84 = .ok (.istore_n 3, 1) := by decide +kernel
theorem dX5_firstFor_85 : decode cX5_firstFor 85 = .ok (.iinc 4 1, 3) := by decide +kernel
theorem dX5_firstFor_88 : decode cX5_firstFor 88 = .ok (.goto (-58), 3) := by decide +kernel
theorem dX5_firstFor_91 : decode cX5_firstFor 91 = .ok (.iload_n 2, 1) := by decide +kernel
theorem dX5_firstFor_92 : decode cX5_firstFor 92 = .ok (.ireturn, 1) := by decide +kernel
set_option maxRecDepth 20000 in
theorem ggX5_bestAt_X5_moveAll : GoodIn wsX5_bestAt wsX5_moveAll := goodIn_r _ [6] (by decide +kernel) (by decide +kernel)
set_option maxRecDepth 20000 in
theorem gX5_bestAt_X5_moveAll : GoodIn wsX5_bestAt (va_wsS RX5 186 yX5_moveAll wsX5_moveAll) := goodIn_app (goodIn_of _ (by decide +kernel)) ggX5_bestAt_X5_moveAll
set_option maxRecDepth 20000 in
theorem ggX5_bestAt_X5_viewedBy : GoodIn wsX5_bestAt wsX5_viewedBy := goodIn_r _ [10, 11, 2, 1, 12, 13, 14, 5, 15, 16, 17, 18, 19, 20, 21, 22, 23, 24, 25, 26, 27, 28, 29, 30, 31, 32, 33, 34, 35, 36, 37, 38, 39, 40, 41, 42, 43, 44, 45, 46, 47, 48, 49, 50, 51, 52, 53, 54, 55, 56, 57, 58, 59, 60, 61, 62, 63, 64, 65, 66, 67, 68, 69, 70, 71, 72, 73, 74, 75, 76, 77, 78, 79, 3, 4, 6, 80, 81, 82, 83, 84, 85, 86, 87, 88, 89, 90, 91, 92, 93, 94, 95, 96, 97, 98, 99, 100, 101, 102, 103, 104, 105, 106, 107, 108, 109] (by decide +kernel) (by decide +kernel)
set_option maxRecDepth 20000 in
theorem gX5_bestAt_X5_viewedBy : GoodIn wsX5_bestAt (wsV RX5 269 RX5 yX5_viewedBy wsX5_viewedBy) := goodIn_app (goodIn_of _ (by decide +kernel)) ggX5_bestAt_X5_viewedBy
theorem dX5_bestAt_0 : decode cX5_bestAt 0 = .ok (.aload_n 0, 1) := by decide +kernel
theorem dX5_bestAt_1 : decode cX5_bestAt 1 = .ok (.getfield 7, 3) := by decide +kernel
theorem dX5_bestAt_4 : decode cX5_bestAt 4 = .ok (.aload_n 0, 1) := by decide +kernel
theorem dX5_bestAt_5 : decode cX5_bestAt 5 = .ok (.getfield 19, 3) := by decide +kernel
theorem dX5_bestAt_8 : decode cX5_bestAt 8 = .ok (.invokestatic 186, 3) := by decide +kernel
theorem dX5_bestAt_11 : decode cX5_bestAt 11 = .ok (.iconst 0, 1) := by decide +kernel
theorem dX5_bestAt_12 : decode cX5_bestAt 12 = .ok (.istore 4, 2) := by decide +kernel
theorem dX5_bestAt_14 : decode cX5_bestAt 14 = .ok (.iconst (-1), 1) := by decide +kernel
theorem dX5_bestAt_15 : decode cX5_bestAt 15 = .ok (.istore 5, 2) := by decide +kernel
theorem dX5_bestAt_17 : decode cX5_bestAt 17 = .ok (.iconst 0, 1) := by decide +kernel
theorem dX5_bestAt_18 : decode cX5_bestAt 18 = .ok (.istore 6, 2) := by decide +kernel
theorem dX5_bestAt_20 : decode cX5_bestAt 20 = .ok (.iload 6, 2) := by decide +kernel
theorem dX5_bestAt_22 : decode cX5_bestAt 22 = .ok (.iload_n 2, 1) := by decide +kernel
theorem dX5_bestAt_23 : decode cX5_bestAt 23 = .ok (.if_icmp .gt 66, 3) := by decide +kernel
theorem dX5_bestAt_26 : decode cX5_bestAt 26 = .ok (.aload_n 0, 1) := by decide +kernel
theorem dX5_bestAt_27 : decode cX5_bestAt 27 = .ok (.getfield 7, 3) := by decide +kernel
theorem dX5_bestAt_30 : decode cX5_bestAt 30 = .ok (.iload_n 1, 1) := by decide +kernel
theorem dX5_bestAt_31 : decode cX5_bestAt 31 = .ok (.iload 6, 2) := by decide +kernel
theorem dX5_bestAt_33 : decode cX5_bestAt 33 = .ok (.iastore, 1) := by decide +kernel
theorem dX5_bestAt_34 : decode cX5_bestAt 34 = .ok (.aload_n 0, 1) := by decide +kernel
theorem dX5_bestAt_35 : decode cX5_bestAt 35 = .ok (.iload_n 3, 1) := by decide +kernel
theorem dX5_bestAt_36 : decode cX5_bestAt 36 = .ok (.invokevirtual 269, 3) := by decide +kernel
theorem dX5_bestAt_39 : decode cX5_bestAt 39 = .ok (.istore 7, 2) := by decide +kernel
theorem dX5_bestAt_41 : decode cX5_bestAt 41 = .ok (.iload 5, 2) := by decide +kernel
theorem dX5_bestAt_43 : decode cX5_bestAt 43 = .ok (.ifCond .lt 10, 3) := by decide +kernel
theorem dX5_bestAt_46 : decode cX5_bestAt 46 = .ok (.iload 7, 2) := by decide +kernel
theorem dX5_bestAt_48 : decode cX5_bestAt 48 = .ok (.iload 5, 2) := by decide +kernel
theorem dX5_bestAt_50 : decode cX5_bestAt 50 = .ok (.if_icmp .ge 8, 3) := by decide +kernel
theorem dX5_bestAt_53 : decode cX5_bestAt 53 = .ok (.iload 6, 2) := by decide +kernel
theorem dX5_bestAt_55 : decode cX5_bestAt 55 = .ok (.goto 5, 3) := by decide +kernel
theorem dX5_bestAt_58 : decode cX5_bestAt 58 = .ok (.iload 4, 2) := by decide +kernel
theorem dX5_bestAt_60 : decode cX5_bestAt 60 = .ok (.istore 4, 2) := by decide +kernel
theorem dX5_bestAt_62 : decode cX5_bestAt 62 = .ok (.iload 5, 2) := by decide +kernel
theorem dX5_bestAt_64 : decode cX5_bestAt 64 = .ok (.ifCond .lt 10, 3) := by decide +kernel
theorem dX5_bestAt_67 : decode cX5_bestAt 67 = .ok (.iload 7, 2) := by decide +kernel
theorem dX5_bestAt_69 : decode cX5_bestAt 69 = .ok (.iload 5, 2) := by decide +kernel
theorem dX5_bestAt_71 : decode cX5_bestAt 71 = .ok (.if_icmp .ge 8, 3) := by decide +kernel
theorem dX5_bestAt_74 : decode cX5_bestAt 74 = .ok (.iload 7, 2) := by decide +kernel
theorem dX5_bestAt_76 : decode cX5_bestAt 76 = .ok (.goto 5, 3) := by decide +kernel
theorem dX5_bestAt_79 : decode cX5_bestAt 79 = .ok (.iload 5, 2) := by decide +kernel
theorem dX5_bestAt_81 : decode cX5_bestAt 81 = .ok (.istore 5, 2) := by decide +kernel
theorem dX5_bestAt_83 : decode cX5_bestAt 83 = .ok (.iinc 6 1, 3) := by decide +kernel
theorem dX5_bestAt_86 : decode cX5_bestAt 86 = .ok (.goto (-66), 3) := by decide +kernel
theorem dX5_bestAt_89 : decode cX5_bestAt 89 = .ok (.iload 4, 2) := by decide +kernel
theorem dX5_bestAt_91 : decode cX5_bestAt 91 = .ok (.ireturn, 1) := by decide +kernel
set_option maxRecDepth 20000 in
theorem ggX5_groundFor_X5_isWall : GoodIn wsX5_groundFor wsX5_isWall := goodIn_r _ [4, 5, 6, 3, 7] (by decide +kernel) (by decide +kernel)
set_option maxRecDepth 20000 in
theorem gX5_groundFor_X5_isWall : GoodIn wsX5_groundFor (va_wsS RX5 200 yX5_isWall wsX5_isWall) := goodIn_app (goodIn_of _ (by decide +kernel)) ggX5_groundFor_X5_isWall
set_option maxRecDepth 20000 in
theorem ggX5_groundFor_X5_in : GoodIn wsX5_groundFor wsX5_in := goodIn_r _ [7] (by decide +kernel) (by decide +kernel)
set_option maxRecDepth 20000 in
theorem gX5_groundFor_X5_in : GoodIn wsX5_groundFor (va_wsS RX5 60 yX5_in wsX5_in) := goodIn_app (goodIn_of _ (by decide +kernel)) ggX5_groundFor_X5_in
set_option maxRecDepth 20000 in
theorem ggX5_groundFor_X5_bestAt : GoodIn wsX5_groundFor wsX5_bestAt := goodIn_r _ [11, 12, 13, 14, 15, 3, 16, 17, 18, 19, 20, 21, 22, 23, 24, 25, 26, 27, 28, 29, 30, 31, 32, 33, 34, 35, 36, 37, 38, 39, 40, 41, 42, 43, 44, 45, 46, 47, 48, 49, 50, 51, 52, 53, 54, 55, 56, 57, 58, 59, 60, 61, 62, 63, 64, 65, 66, 67, 68, 69, 70, 71, 72, 73, 74, 75, 76, 77, 78, 79, 80, 81, 82, 83, 84, 85, 86, 87, 88, 89, 90, 91, 92, 93, 94, 95, 96, 97, 98, 99, 100, 101, 102, 103, 104, 105, 106, 107, 108, 109, 110, 111, 112, 113, 114, 115, 116, 117, 118, 119] (by decide +kernel) (by decide +kernel)
set_option maxRecDepth 20000 in
theorem gX5_groundFor_X5_bestAt : GoodIn wsX5_groundFor (wsV RX5 285 RX5 yX5_bestAt wsX5_bestAt) := goodIn_app (goodIn_of _ (by decide +kernel)) ggX5_groundFor_X5_bestAt
theorem dX5_groundFor_0 : decode cX5_groundFor 0 = .ok (.iload_n 1, 1) := by decide +kernel
theorem dX5_groundFor_1 : decode cX5_groundFor 1 = .ok (.invokestatic 200, 3) := by decide +kernel
theorem dX5_groundFor_4 : decode cX5_groundFor 4 = .ok (.ifCond .eq 28, 3) := by decide +kernel
theorem dX5_groundFor_7 : decode cX5_groundFor 7 = .ok (.iload_n 2, 1) := by decide +kernel
theorem dX5_groundFor_8 : decode cX5_groundFor 8 = .ok (.iconst 1, 1) := by decide +kernel
theorem dX5_groundFor_9 : decode cX5_groundFor 9 = .ok (.bipush 30, 2) := by decide +kernel
theorem dX5_groundFor_11 : decode cX5_groundFor 11 = .ok (.invokestatic 60, 3) := by decide +kernel
theorem dX5_groundFor_14 : decode cX5_groundFor 14 = .ok (.ifCond .eq 18, 3) := by decide +kernel
theorem dX5_groundFor_17 : decode cX5_groundFor 17 = .ok (.aload_n 0, 1) := by decide +kernel
theorem dX5_groundFor_18 : decode cX5_groundFor 18 = .ok (.bipush 8, 2) := by decide +kernel
theorem dX5_groundFor_20 : decode cX5_groundFor 20 = .ok (.iconst 2, 1) := by decide +kernel
theorem dX5_groundFor_21 : decode cX5_groundFor 21 = .ok (.iload_n 1, 1) := by decide +kernel
theorem dX5_groundFor_22 : decode cX5_groundFor 22 = .ok (.imul, 1) := by decide +kernel
theorem dX5_groundFor_23 : decode cX5_groundFor 23 = .ok (.iadd, 1) := by decide +kernel
theorem dX5_groundFor_24 : decode cX5_groundFor 24 = .ok (.iconst 2, 1) := by decide +kernel
theorem dX5_groundFor_25 : decode cX5_groundFor 25 = .ok (.iload_n 2, 1) := by decide +kernel
theorem dX5_groundFor_26 : decode cX5_groundFor 26 = .ok (.invokevirtual 285, 3) := by decide +kernel
theorem dX5_groundFor_29 : decode cX5_groundFor 29 = .ok (.goto 4, 3) := by decide +kernel
theorem dX5_groundFor_32 : decode cX5_groundFor 32 = .ok (.iconst (-1), 1) := by decide +kernel
theorem dX5_groundFor_33 : decode cX5_groundFor 33 = .ok (.ireturn, 1) := by decide +kernel
set_option maxRecDepth 20000 in
theorem ggX5_kindFor_X5_isOne : GoodIn wsX5_kindFor wsX5_isOne := goodIn_r _ [5, 6, 7, 8, 4, 9, 91, 92, 93, 94, 95, 96, 97, 98, 99, 100, 101, 102, 103, 104, 105, 106, 107, 108, 109, 110, 111, 112, 113, 114, 115, 116, 117, 118, 119, 120] (by decide +kernel) (by decide +kernel)
set_option maxRecDepth 20000 in
theorem gX5_kindFor_X5_isOne : GoodIn wsX5_kindFor (wsV RX5 207 RX5 yX5_isOne wsX5_isOne) := goodIn_app (goodIn_of _ (by decide +kernel)) ggX5_kindFor_X5_isOne
set_option maxRecDepth 20000 in
theorem ggX5_kindFor_X5_in : GoodIn wsX5_kindFor wsX5_in := goodIn_r _ [9] (by decide +kernel) (by decide +kernel)
set_option maxRecDepth 20000 in
theorem gX5_kindFor_X5_in : GoodIn wsX5_kindFor (va_wsS RX5 60 yX5_in wsX5_in) := goodIn_app (goodIn_of _ (by decide +kernel)) ggX5_kindFor_X5_in
set_option maxRecDepth 20000 in
theorem ggX5_kindFor_X5_bestAt : GoodIn wsX5_kindFor wsX5_bestAt := goodIn_r _ [13, 6, 14, 15, 16, 4, 17, 18, 19, 20, 21, 22, 23, 24, 25, 26, 27, 28, 29, 30, 31, 32, 33, 34, 35, 36, 37, 38, 39, 40, 41, 42, 43, 44, 45, 46, 47, 48, 49, 50, 51, 52, 53, 54, 55, 56, 57, 58, 59, 60, 61, 62, 63, 64, 65, 66, 67, 68, 69, 70, 71, 72, 73, 74, 75, 76, 77, 78, 79, 80, 81, 82, 83, 84, 85, 86, 87, 88, 89, 90, 91, 92, 93, 94, 95, 96, 97, 98, 99, 100, 101, 102, 103, 104, 105, 106, 107, 108, 109, 110, 111, 112, 113, 114, 115, 116, 117, 118, 119, 120] (by decide +kernel) (by decide +kernel)
set_option maxRecDepth 20000 in
theorem gX5_kindFor_X5_bestAt : GoodIn wsX5_kindFor (wsV RX5 285 RX5 yX5_bestAt wsX5_bestAt) := goodIn_app (goodIn_of _ (by decide +kernel)) ggX5_kindFor_X5_bestAt
theorem dX5_kindFor_0 : decode cX5_kindFor 0 = .ok (.aload_n 0, 1) := by decide +kernel
theorem dX5_kindFor_1 : decode cX5_kindFor 1 = .ok (.iload_n 1, 1) := by decide +kernel
theorem dX5_kindFor_2 : decode cX5_kindFor 2 = .ok (.invokevirtual 207, 3) := by decide +kernel
theorem dX5_kindFor_5 : decode cX5_kindFor 5 = .ok (.ifCond .eq 28, 3) := by decide +kernel
theorem dX5_kindFor_8 : decode cX5_kindFor 8 = .ok (.iload_n 2, 1) := by decide +kernel
theorem dX5_kindFor_9 : decode cX5_kindFor 9 = .ok (.iconst 1, 1) := by decide +kernel
theorem dX5_kindFor_10 : decode cX5_kindFor 10 = .ok (.bipush 30, 2) := by decide +kernel
theorem dX5_kindFor_12 : decode cX5_kindFor 12 = .ok (.invokestatic 60, 3) := by decide +kernel
theorem dX5_kindFor_15 : decode cX5_kindFor 15 = .ok (.ifCond .eq 18, 3) := by decide +kernel
theorem dX5_kindFor_18 : decode cX5_kindFor 18 = .ok (.aload_n 0, 1) := by decide +kernel
theorem dX5_kindFor_19 : decode cX5_kindFor 19 = .ok (.bipush 28, 2) := by decide +kernel
theorem dX5_kindFor_21 : decode cX5_kindFor 21 = .ok (.iconst 5, 1) := by decide +kernel
theorem dX5_kindFor_22 : decode cX5_kindFor 22 = .ok (.iload_n 1, 1) := by decide +kernel
theorem dX5_kindFor_23 : decode cX5_kindFor 23 = .ok (.imul, 1) := by decide +kernel
theorem dX5_kindFor_24 : decode cX5_kindFor 24 = .ok (.iadd, 1) := by decide +kernel
theorem dX5_kindFor_25 : decode cX5_kindFor 25 = .ok (.iconst 5, 1) := by decide +kernel
theorem dX5_kindFor_26 : decode cX5_kindFor 26 = .ok (.iload_n 2, 1) := by decide +kernel
theorem dX5_kindFor_27 : decode cX5_kindFor 27 = .ok (.invokevirtual 285, 3) := by decide +kernel
theorem dX5_kindFor_30 : decode cX5_kindFor 30 = .ok (.goto 4, 3) := by decide +kernel
theorem dX5_kindFor_33 : decode cX5_kindFor 33 = .ok (.iconst (-1), 1) := by decide +kernel
theorem dX5_kindFor_34 : decode cX5_kindFor 34 = .ok (.ireturn, 1) := by decide +kernel
set_option maxRecDepth 20000 in
theorem ggX5_bucketsFor_X5_in : GoodIn wsX5_bucketsFor wsX5_in := goodIn_r _ [7] (by decide +kernel) (by decide +kernel)
set_option maxRecDepth 20000 in
theorem gX5_bucketsFor_X5_in : GoodIn wsX5_bucketsFor (va_wsS RX5 60 yX5_in wsX5_in) := goodIn_app (goodIn_of _ (by decide +kernel)) ggX5_bucketsFor_X5_in
set_option maxRecDepth 20000 in
theorem ggX5_bucketsFor_X5_moveAll : GoodIn wsX5_bucketsFor wsX5_moveAll := goodIn_r _ [10] (by decide +kernel) (by decide +kernel)
set_option maxRecDepth 20000 in
theorem gX5_bucketsFor_X5_moveAll : GoodIn wsX5_bucketsFor (va_wsS RX5 186 yX5_moveAll wsX5_moveAll) := goodIn_app (goodIn_of _ (by decide +kernel)) ggX5_bucketsFor_X5_moveAll
set_option maxRecDepth 20000 in
theorem ggX5_bucketsFor_X5_viewedBy : GoodIn wsX5_bucketsFor wsX5_viewedBy := goodIn_r _ [14, 15, 3, 2, 16, 17, 18, 6, 19, 20, 1, 21, 22, 23, 24, 25, 26, 27, 28, 29, 30, 31, 32, 33, 34, 35, 36, 37, 38, 39, 40, 41, 42, 43, 44, 45, 46, 47, 48, 49, 50, 51, 52, 53, 54, 55, 56, 57, 58, 59, 60, 61, 62, 63, 64, 65, 66, 67, 68, 69, 70, 71, 72, 73, 74, 75, 76, 77, 78, 79, 80, 81, 82, 8, 9, 10, 83, 84, 85, 86, 87, 88, 89, 90, 91, 92, 93, 94, 95, 96, 97, 98, 99, 100, 101, 102, 103, 104, 105, 106, 107, 108, 109, 110, 111, 112] (by decide +kernel) (by decide +kernel)
set_option maxRecDepth 20000 in
theorem gX5_bucketsFor_X5_viewedBy : GoodIn wsX5_bucketsFor (wsV RX5 269 RX5 yX5_viewedBy wsX5_viewedBy) := goodIn_app (goodIn_of _ (by decide +kernel)) ggX5_bucketsFor_X5_viewedBy
theorem dX5_bucketsFor_0 : decode cX5_bucketsFor 0 = .ok (.iload_n 1, 1) := by decide +kernel
theorem dX5_bucketsFor_1 : decode cX5_bucketsFor 1 = .ok (.iconst 1, 1) := by decide +kernel
theorem dX5_bucketsFor_2 : decode cX5_bucketsFor 2 = .ok (.bipush 30, 2) := by decide +kernel
theorem dX5_bucketsFor_4 : decode cX5_bucketsFor 4 = .ok (.invokestatic 60, 3) := by decide +kernel
theorem dX5_bucketsFor_7 : decode cX5_bucketsFor 7 = .ok (.ifCond .eq 14, 3) := by decide +kernel
theorem dX5_bucketsFor_10 : decode cX5_bucketsFor 10 = .ok (.iload_n 2, 1) := by decide +kernel
theorem dX5_bucketsFor_11 : decode cX5_bucketsFor 11 = .ok (.iconst 0, 1) := by decide +kernel
theorem dX5_bucketsFor_12 : decode cX5_bucketsFor 12 = .ok (.ldc_w 258, 3) := by decide +kernel
theorem dX5_bucketsFor_15 : decode cX5_bucketsFor 15 = .ok (.invokestatic 60, 3) := by decide +kernel
theorem dX5_bucketsFor_18 : decode cX5_bucketsFor 18 = .ok (.ifCond .ne 5, 3) := by decide +kernel
theorem dX5_bucketsFor_21 : decode cX5_bucketsFor 21 = .ok (.iconst (-1), 1) := by decide +kernel
theorem dX5_bucketsFor_22 : decode cX5_bucketsFor 22 = .ok (.ireturn, 1) := by decide +kernel
theorem dX5_bucketsFor_23 : decode cX5_bucketsFor 23 = .ok (.aload_n 0, 1) := by decide +kernel
theorem dX5_bucketsFor_24 : decode cX5_bucketsFor 24 = .ok (.getfield 7, 3) := by decide +kernel
theorem dX5_bucketsFor_27 : decode cX5_bucketsFor 27 = .ok (.aload_n 0, 1) := by decide +kernel
theorem dX5_bucketsFor_28 : decode cX5_bucketsFor 28 = .ok (.getfield 19, 3) := by decide +kernel
theorem dX5_bucketsFor_31 : decode cX5_bucketsFor 31 = .ok (.invokestatic 186, 3) := by decide +kernel
theorem dX5_bucketsFor_34 : decode cX5_bucketsFor 34 = .ok (.iconst (-1), 1) := by decide +kernel
theorem dX5_bucketsFor_35 : decode cX5_bucketsFor 35 = .ok (.istore_n 3, 1) := by decide +kernel
theorem dX5_bucketsFor_36 : decode cX5_bucketsFor 36 = .ok (.iconst 0, 1) := by decide +kernel
theorem dX5_bucketsFor_37 : decode cX5_bucketsFor 37 = .ok (.istore 4, 2) := by decide +kernel
theorem dX5_bucketsFor_39 : decode cX5_bucketsFor 39 = .ok (.iload_n 3, 1) := by decide +kernel
theorem dX5_bucketsFor_40 : decode cX5_bucketsFor 40 = .ok (.bipush 9, 2) := by decide +kernel
theorem dX5_bucketsFor_42 : decode cX5_bucketsFor 42 = .ok (.if_icmp .ge 37, 3) := by decide +kernel
theorem dX5_bucketsFor_45 : decode cX5_bucketsFor 45 = .ok (.iload 4, 2) := by decide +kernel
theorem dX5_bucketsFor_47 : decode cX5_bucketsFor 47 = .ok (.ifCond .ne 32, 3) := by decide +kernel
theorem dX5_bucketsFor_50 : decode cX5_bucketsFor 50 = .ok (.iinc 3 1, 3) := by decide +kernel
theorem dX5_bucketsFor_53 : decode cX5_bucketsFor 53 = .ok (.aload_n 0, 1) := by decide +kernel
theorem dX5_bucketsFor_54 : decode cX5_bucketsFor 54 = .ok (.getfield 7, 3) := by decide +kernel
theorem dX5_bucketsFor_57 : decode cX5_bucketsFor 57 = .ok (.iconst 0, 1) := by decide +kernel
theorem dX5_bucketsFor_58 : decode cX5_bucketsFor 58 = .ok (.iload_n 3, 1) := by decide +kernel
theorem dX5_bucketsFor_59 : decode cX5_bucketsFor 59 = .ok (.iastore, 1) := by decide +kernel
theorem dX5_bucketsFor_60 : decode cX5_bucketsFor 60 = .ok (.aload_n 0, 1) := by decide +kernel
theorem dX5_bucketsFor_61 : decode cX5_bucketsFor 61 = .ok (.iload_n 1, 1) := by decide +kernel
theorem dX5_bucketsFor_62 : decode cX5_bucketsFor 62 = .ok (.invokevirtual 269, 3) := by decide +kernel
theorem dX5_bucketsFor_65 : decode cX5_bucketsFor 65 = .ok (.iload_n 2, 1) := by decide +kernel
theorem dX5_bucketsFor_66 : decode cX5_bucketsFor 66 = .ok (.if_icmp .gt 7, 3) := by decide +kernel
theorem dX5_bucketsFor_69 : decode cX5_bucketsFor 69 = .ok (.iconst 1, 1) := by decide +kernel
theorem dX5_bucketsFor_70 : decode cX5_bucketsFor 70 = .ok (.goto 4, 3) := by decide +kernel
theorem dX5_bucketsFor_73 : decode cX5_bucketsFor 73 = .ok (.iconst 0, 1) := by decide +kernel
theorem dX5_bucketsFor_74 : decode cX5_bucketsFor 74 = .ok (.istore 4, 2) := by decide +kernel
theorem dX5_bucketsFor_76 : decode cX5_bucketsFor 76 = .ok (.goto (-37), 3) := by decide +kernel
theorem dX5_bucketsFor_79 : decode cX5_bucketsFor 79 = .ok (.iload 4, 2) := by decide +kernel
theorem dX5_bucketsFor_81 : decode cX5_bucketsFor 81 = .ok (.ifCond .eq 7, 3) := by decide +kernel
theorem dX5_bucketsFor_84 : decode cX5_bucketsFor 84 = .ok (.iload_n 3, 1) := by decide +kernel
theorem dX5_bucketsFor_85 : decode cX5_bucketsFor 85 = .ok (.goto 5, 3) := by decide +kernel
theorem dX5_bucketsFor_88 : decode cX5_bucketsFor 88 = .ok (.bipush (-3), 2) := by decide +kernel
theorem dX5_bucketsFor_90 : decode cX5_bucketsFor 90 = .ok (.ireturn, 1) := by decide +kernel
set_option maxRecDepth 20000 in
theorem ggX5_isWaxed_X5_ground : GoodIn wsX5_isWaxed wsX5_ground := goodIn_r _ [6, 1, 80, 81, 82, 83, 84, 85, 86, 87, 88, 89, 90, 91, 92, 93, 94, 95, 96, 97, 98, 99, 100, 101, 102, 103, 104, 105, 106, 107, 108, 109] (by decide +kernel) (by decide +kernel)
set_option maxRecDepth 20000 in
theorem gX5_isWaxed_X5_ground : GoodIn wsX5_isWaxed (wsV RX5 219 RX5 yX5_ground wsX5_ground) := goodIn_app (goodIn_of _ (by decide +kernel)) ggX5_isWaxed_X5_ground
set_option maxRecDepth 20000 in
theorem ggX5_isWaxed_X5_viewedBy : GoodIn wsX5_isWaxed wsX5_viewedBy := goodIn_r _ [10, 11, 12, 1, 13, 14, 15, 5, 16, 17, 18, 19, 20, 21, 22, 23, 24, 25, 26, 27, 28, 29, 30, 31, 32, 33, 34, 35, 36, 37, 38, 39, 40, 41, 42, 43, 44, 45, 2, 3, 4, 6, 46, 47, 48, 49, 50, 51, 52, 53, 54, 55, 56, 57, 58, 59, 60, 61, 62, 63, 64, 65, 66, 67, 68, 69, 70, 71, 72, 73, 74, 75, 76, 77, 78, 79, 80, 81, 82, 83, 84, 85, 86, 87, 88, 89, 90, 91, 92, 93, 94, 95, 96, 97, 98, 99, 100, 101, 102, 103, 104, 105, 106, 107, 108, 109] (by decide +kernel) (by decide +kernel)
set_option maxRecDepth 20000 in
theorem gX5_isWaxed_X5_viewedBy : GoodIn wsX5_isWaxed (wsV RX5 269 RX5 yX5_viewedBy wsX5_viewedBy) := goodIn_app (goodIn_of _ (by decide +kernel)) ggX5_isWaxed_X5_viewedBy
theorem dX5_isWaxed_0 : decode cX5_isWaxed 0 = .ok (.iconst 0, 1) := by decide +kernel
theorem dX5_isWaxed_1 : decode cX5_isWaxed 1 = .ok (.istore 4, 2) := by decide +kernel
theorem dX5_isWaxed_3 : decode cX5_isWaxed 3 = .ok (.iload 4, 2) := by decide +kernel
theorem dX5_isWaxed_5 : decode cX5_isWaxed 5 = .ok (.bipush 10, 2) := by decide +kernel
theorem dX5_isWaxed_7 : decode cX5_isWaxed 7 = .ok (.if_icmp .ge 41, 3) := by decide +kernel
theorem dX5_isWaxed_10 : decode cX5_isWaxed 10 = .ok (.aload_n 0, 1) := by decide +kernel
theorem dX5_isWaxed_11 : decode cX5_isWaxed 11 = .ok (.getfield 7, 3) := by decide +kernel
theorem dX5_isWaxed_14 : decode cX5_isWaxed 14 = .ok (.bipush 8, 2) := by decide +kernel
theorem dX5_isWaxed_16 : decode cX5_isWaxed 16 = .ok (.iconst 2, 1) := by decide +kernel
theorem dX5_isWaxed_17 : decode cX5_isWaxed 17 = .ok (.iload 4, 2) := by decide +kernel
theorem dX5_isWaxed_19 : decode cX5_isWaxed 19 = .ok (.imul, 1) := by decide +kernel
theorem dX5_isWaxed_20 : decode cX5_isWaxed 20 = .ok (.iadd, 1) := by decide +kernel
theorem dX5_isWaxed_21 : decode cX5_isWaxed 21 = .ok (.iload_n 1, 1) := by decide +kernel
theorem dX5_isWaxed_22 : decode cX5_isWaxed 22 = .ok (.iload 4, 2) := by decide +kernel
theorem dX5_isWaxed_24 : decode cX5_isWaxed 24 = .ok (.ishr, 1) := by decide +kernel
theorem dX5_isWaxed_25 : decode cX5_isWaxed 25 = .ok (.iconst 1, 1) := by decide +kernel
theorem dX5_isWaxed_26 : decode cX5_isWaxed 26 = .ok (.iand, 1) := by decide +kernel
theorem dX5_isWaxed_27 : decode cX5_isWaxed 27 = .ok (.iconst 1, 1) := by decide +kernel
theorem dX5_isWaxed_28 : decode cX5_isWaxed 28 = .ok (.if_icmp .ne 7, 3) := by decide +kernel
theorem dX5_isWaxed_31 : decode cX5_isWaxed 31 = .ok (.iconst 2, 1) := by decide +kernel
theorem dX5_isWaxed_32 : decode cX5_isWaxed 32 = .ok (.goto 9, 3) := by decide +kernel
theorem dX5_isWaxed_35 : decode cX5_isWaxed 35 = .ok (.aload_n 0, 1) := by decide +kernel
theorem dX5_isWaxed_36 : decode cX5_isWaxed 36 = .ok (.iload 4, 2) := by decide +kernel
theorem dX5_isWaxed_38 : decode cX5_isWaxed 38 = .ok (.invokevirtual 219, 3) := by decide +kernel
theorem dX5_isWaxed_41 : decode cX5_isWaxed 41 = .ok (.iastore, 1) := by decide +kernel
theorem dX5_isWaxed_42 : decode cX5_isWaxed 42 = .ok (.iinc 4 1, 3) := by decide +kernel
theorem dX5_isWaxed_45 : decode cX5_isWaxed 45 = .ok (.goto (-42), 3) := by decide +kernel
theorem dX5_isWaxed_48 : decode cX5_isWaxed 48 = .ok (.aload_n 0, 1) := by decide +kernel
theorem dX5_isWaxed_49 : decode cX5_isWaxed 49 = .ok (.iload_n 2, 1) := by decide +kernel
theorem dX5_isWaxed_50 : decode cX5_isWaxed 50 = .ok (.invokevirtual 269, 3) := by decide +kernel
theorem dX5_isWaxed_53 : decode cX5_isWaxed 53 = .ok (.iload_n 3, 1) := by decide +kernel
theorem dX5_isWaxed_54 : decode cX5_isWaxed 54 = .ok (.if_icmp .gt 7, 3) := by decide +kernel
theorem dX5_isWaxed_57 : decode cX5_isWaxed 57 = .ok (.iconst 1, 1) := by decide +kernel
theorem dX5_isWaxed_58 : decode cX5_isWaxed 58 = .ok (.goto 4, 3) := by decide +kernel
theorem dX5_isWaxed_61 : decode cX5_isWaxed 61 = .ok (.iconst 0, 1) := by decide +kernel
theorem dX5_isWaxed_62 : decode cX5_isWaxed 62 = .ok (.ireturn, 1) := by decide +kernel
set_option maxRecDepth 20000 in
theorem ggX5_waxedFor_X5_in : GoodIn wsX5_waxedFor wsX5_in := goodIn_r _ [7] (by decide +kernel) (by decide +kernel)
set_option maxRecDepth 20000 in
theorem gX5_waxedFor_X5_in : GoodIn wsX5_waxedFor (va_wsS RX5 60 yX5_in wsX5_in) := goodIn_app (goodIn_of _ (by decide +kernel)) ggX5_waxedFor_X5_in
set_option maxRecDepth 20000 in
theorem ggX5_waxedFor_X5_moveAll : GoodIn wsX5_waxedFor wsX5_moveAll := goodIn_r _ [10] (by decide +kernel) (by decide +kernel)
set_option maxRecDepth 20000 in
theorem gX5_waxedFor_X5_moveAll : GoodIn wsX5_waxedFor (va_wsS RX5 186 yX5_moveAll wsX5_moveAll) := goodIn_app (goodIn_of _ (by decide +kernel)) ggX5_waxedFor_X5_moveAll
set_option maxRecDepth 20000 in
theorem ggX5_waxedFor_X5_ones : GoodIn wsX5_waxedFor wsX5_ones := goodIn_r _ [13] (by decide +kernel) (by decide +kernel)
set_option maxRecDepth 20000 in
theorem gX5_waxedFor_X5_ones : GoodIn wsX5_waxedFor (va_wsS RX5 216 yX5_ones wsX5_ones) := goodIn_app (goodIn_of _ (by decide +kernel)) ggX5_waxedFor_X5_ones
set_option maxRecDepth 20000 in
theorem ggX5_waxedFor_X5_isWaxed : GoodIn wsX5_waxedFor wsX5_isWaxed := goodIn_r _ [17, 2, 18, 19, 20, 6, 21, 22, 23, 24, 25, 26, 3, 27, 28, 29, 30, 31, 1, 32, 33, 34, 35, 36, 37, 38, 39, 40, 41, 42, 43, 44, 45, 46, 47, 48, 49, 50, 51, 52, 53, 54, 55, 56, 57, 58, 59, 60, 61, 62, 63, 64, 65, 66, 11, 12, 13, 67, 68, 69, 70, 71, 72, 73, 74, 75, 76, 77, 78, 79, 80, 81, 82, 83, 84, 85, 86, 8, 9, 10, 87, 88, 89, 90, 91, 92, 93, 94, 95, 96, 97, 98, 99, 100, 101, 102, 103, 104, 105, 106, 107, 108, 109, 110, 111, 112, 113, 114, 115, 116] (by decide +kernel) (by decide +kernel)
set_option maxRecDepth 20000 in
theorem gX5_waxedFor_X5_isWaxed : GoodIn wsX5_waxedFor (wsV RX5 288 RX5 yX5_isWaxed wsX5_isWaxed) := goodIn_app (goodIn_of _ (by decide +kernel)) ggX5_waxedFor_X5_isWaxed
theorem dX5_waxedFor_0 : decode cX5_waxedFor 0 = .ok (.iload_n 1, 1) := by decide +kernel
theorem dX5_waxedFor_1 : decode cX5_waxedFor 1 = .ok (.iconst 1, 1) := by decide +kernel
theorem dX5_waxedFor_2 : decode cX5_waxedFor 2 = .ok (.bipush 10, 2) := by decide +kernel
theorem dX5_waxedFor_4 : decode cX5_waxedFor 4 = .ok (.invokestatic 60, 3) := by decide +kernel
theorem dX5_waxedFor_7 : decode cX5_waxedFor 7 = .ok (.ifCond .eq 14, 3) := by decide +kernel
theorem dX5_waxedFor_10 : decode cX5_waxedFor 10 = .ok (.iload_n 2, 1) := by decide +kernel
theorem dX5_waxedFor_11 : decode cX5_waxedFor 11 = .ok (.iconst 0, 1) := by decide +kernel
theorem dX5_waxedFor_12 : decode cX5_waxedFor 12 = .ok (.ldc_w 258, 3) := by decide +kernel
theorem dX5_waxedFor_15 : decode cX5_waxedFor 15 = .ok (.invokestatic 60, 3) := by decide +kernel
theorem dX5_waxedFor_18 : decode cX5_waxedFor 18 = .ok (.ifCond .ne 5, 3) := by decide +kernel
theorem dX5_waxedFor_21 : decode cX5_waxedFor 21 = .ok (.iconst (-1), 1) := by decide +kernel
theorem dX5_waxedFor_22 : decode cX5_waxedFor 22 = .ok (.ireturn, 1) := by decide +kernel
theorem dX5_waxedFor_23 : decode cX5_waxedFor 23 = .ok (.aload_n 0, 1) := by decide +kernel
theorem dX5_waxedFor_24 : decode cX5_waxedFor 24 = .ok (.getfield 7, 3) := by decide +kernel
theorem dX5_waxedFor_27 : decode cX5_waxedFor 27 = .ok (.aload_n 0, 1) := by decide +kernel
theorem dX5_waxedFor_28 : decode cX5_waxedFor 28 = .ok (.getfield 19, 3) := by decide +kernel
theorem dX5_waxedFor_31 : decode cX5_waxedFor 31 = .ok (.invokestatic 186, 3) := by decide +kernel
theorem dX5_waxedFor_34 : decode cX5_waxedFor 34 = .ok (.iconst (-1), 1) := by decide +kernel
theorem dX5_waxedFor_35 : decode cX5_waxedFor 35 = .ok (.istore_n 3, 1) := by decide +kernel
theorem dX5_waxedFor_36 : decode cX5_waxedFor 36 = .ok (.iconst 0, 1) := by decide +kernel
theorem dX5_waxedFor_37 : decode cX5_waxedFor 37 = .ok (.istore 4, 2) := by decide +kernel
theorem dX5_waxedFor_39 : decode cX5_waxedFor 39 = .ok (.iload 4, 2) := by decide +kernel
theorem dX5_waxedFor_41 : decode cX5_waxedFor 41 = .ok (.sipush 1024, 3) := by decide +kernel
theorem dX5_waxedFor_44 : decode cX5_waxedFor 44 = .ok (.if_icmp .ge 39, 3) := by decide +kernel
theorem dX5_waxedFor_47 : decode cX5_waxedFor 47 = .ok (.iload_n 3, 1) := by decide +kernel
theorem dX5_waxedFor_48 : decode cX5_waxedFor 48 = .ok (.ifCond .lt 15, 3) := by decide +kernel
theorem dX5_waxedFor_51 : decode cX5_waxedFor 51 = .ok (.iload 4, 2) := by decide +kernel
theorem dX5_waxedFor_53 : decode cX5_waxedFor 53 = .ok (.invokestatic 216, 3) := by decide +kernel
theorem dX5_waxedFor_56 : decode cX5_waxedFor 56 = .ok (.iload_n 3, 1) := by decide +kernel
theorem dX5_waxedFor_57 : decode cX5_waxedFor 57 = .ok (.invokestatic 216, 3) := by decide +kernel
theorem dX5_waxedFor_60 : decode cX5_waxedFor 60 = .ok (.if_icmp .ge 17, 3) := by decide +kernel
theorem dX5_waxedFor_63 : decode cX5_waxedFor 63 = .ok (.aload_n 0, 1) := by decide +kernel
theorem dX5_waxedFor_64 : decode cX5_waxedFor 64 = .ok (.iload 4, 2) := by decide +kernel
theorem dX5_waxedFor_66 : decode cX5_waxedFor 66 = .ok (.iload_n 1, 1) := by decide +kernel
theorem dX5_waxedFor_67 : decode cX5_waxedFor 67 = .ok (.iload_n 2, 1) := by decide +kernel
theorem dX5_waxedFor_68 : decode cX5_waxedFor 68 = .ok (.invokevirtual 288, 3) := by decide +kernel
theorem dX5_waxedFor_71 : decode cX5_waxedFor 71 = .ok (.ifCond .eq 6, 3) := by decide +kernel
theorem dX5_waxedFor_74 : decode cX5_waxedFor 74 = .ok (.iload 4, 2) := by decide +kernel
theorem dX5_waxedFor_76 : decode cX5_waxedFor 76 = .ok (.istore_n 3, 1) := by decide +kernel
theorem dX5_waxedFor_77 : decode cX5_waxedFor 77 = .ok (.iinc 4 1, 3) := by decide +kernel
theorem dX5_waxedFor_80 : decode cX5_waxedFor 80 = .ok (.goto (-41), 3) := by decide +kernel
theorem dX5_waxedFor_83 : decode cX5_waxedFor 83 = .ok (.iload_n 3, 1) := by decide +kernel
theorem dX5_waxedFor_84 : decode cX5_waxedFor 84 = .ok (.ifCond .ge 8, 3) := by decide +kernel
theorem dX5_waxedFor_87 : decode cX5_waxedFor 87 = .ok (.bipush (-3), 2) := by decide +kernel
theorem dX5_waxedFor_89 : decode cX5_waxedFor 89 = .ok (.goto 4, 3) := by decide +kernel
theorem dX5_waxedFor_92 : decode cX5_waxedFor 92 = .ok (.iload_n 3, 1) := by decide +kernel
theorem dX5_waxedFor_93 : decode cX5_waxedFor 93 = .ok (.ireturn, 1) := by decide +kernel
set_option maxRecDepth 20000 in
theorem ggX5_sameHand_X5_its : GoodIn wsX5_sameHand wsX5_its := goodIn_r _ [6, 1, 7, 8, 9, 10, 11, 12, 13, 14, 15, 16, 17, 18, 19, 20, 21, 22, 23, 24, 25, 26, 27, 28, 29, 30, 31, 32, 33, 34, 35, 36] (by decide +kernel) (by decide +kernel)
set_option maxRecDepth 20000 in
theorem gX5_sameHand_X5_its : GoodIn wsX5_sameHand (wsV RX5 210 RX5 yX5_its wsX5_its) := goodIn_app (goodIn_of _ (by decide +kernel)) ggX5_sameHand_X5_its
theorem dX5_sameHand_0 : decode cX5_sameHand 0 = .ok (.iconst 0, 1) := by decide +kernel
theorem dX5_sameHand_1 : decode cX5_sameHand 1 = .ok (.istore_n 2, 1) := by decide +kernel
theorem dX5_sameHand_2 : decode cX5_sameHand 2 = .ok (.iconst 0, 1) := by decide +kernel
theorem dX5_sameHand_3 : decode cX5_sameHand 3 = .ok (.istore_n 3, 1) := by decide +kernel
theorem dX5_sameHand_4 : decode cX5_sameHand 4 = .ok (.iload_n 3, 1) := by decide +kernel
theorem dX5_sameHand_5 : decode cX5_sameHand 5 = .ok (.aload_n 0, 1) := by decide +kernel
theorem dX5_sameHand_6 : decode cX5_sameHand 6 = .ok (.getfield 7, 3) := by decide +kernel
theorem dX5_sameHand_9 : decode cX5_sameHand 9 = .ok (.bipush 6, 2) := by decide +kernel
theorem dX5_sameHand_11 : decode cX5_sameHand 11 = .ok (.iaload, 1) := by decide +kernel
theorem dX5_sameHand_12 : decode cX5_sameHand 12 = .ok (.if_icmp .ge 34, 3) := by decide +kernel
theorem dX5_sameHand_15 : decode cX5_sameHand 15 = .ok (.iload_n 2, 1) := by decide +kernel
theorem dX5_sameHand_16 : decode cX5_sameHand 16 = .ok (.aload_n 0, 1) := by decide +kernel
theorem dX5_sameHand_17 : decode cX5_sameHand 17 = .ok (.iload_n 3, 1) := by decide +kernel
theorem dX5_sameHand_18 : decode cX5_sameHand 18 = .ok (.iconst 1, 1) := by decide +kernel
theorem dX5_sameHand_19 : decode cX5_sameHand 19 = .ok (.invokevirtual 210, 3) := by decide +kernel
theorem dX5_sameHand_22 : decode cX5_sameHand 22 = .ok (.aload_n 0, 1) := by decide +kernel
theorem dX5_sameHand_23 : decode cX5_sameHand 23 = .ok (.iload_n 1, 1) := by decide +kernel
theorem dX5_sameHand_24 : decode cX5_sameHand 24 = .ok (.iconst 1, 1) := by decide +kernel
theorem dX5_sameHand_25 : decode cX5_sameHand 25 = .ok (.invokevirtual 210, 3) := by decide +kernel
theorem dX5_sameHand_28 : decode cX5_sameHand 28 = .ok (.if_icmp .ne 9, 3) := by decide +kernel
theorem dX5_sameHand_31 : decode cX5_sameHand 31 = .ok (.iconst 1, 1) := by decide +kernel
theorem dX5_sameHand_32 : decode cX5_sameHand 32 = .ok (.iload_n 3, 1) := by decide +kernel
theorem dX5_sameHand_33 : decode cX5_sameHand 33 = .ok (.ishl, 1) := by decide +kernel
theorem dX5_sameHand_34 : decode cX5_sameHand 34 = .ok (.goto 4, 3) := by decide +kernel
theorem dX5_sameHand_37 : decode cX5_sameHand 37 = .ok (.iconst 0, 1) := by decide +kernel
theorem dX5_sameHand_38 : decode cX5_sameHand 38 = .ok (.ior, 1) := by decide +kernel
theorem dX5_sameHand_39 : decode cX5_sameHand 39 = .ok (.istore_n 2, 1) := by decide +kernel
theorem dX5_sameHand_40 : decode cX5_sameHand 40 = .ok (.iinc 3 1, 3) := by decide +kernel
theorem dX5_sameHand_43 : decode cX5_sameHand 43 = .ok (.goto (-39), 3) := by decide +kernel
theorem dX5_sameHand_46 : decode cX5_sameHand 46 = .ok (.iload_n 2, 1) := by decide +kernel
theorem dX5_sameHand_47 : decode cX5_sameHand 47 = .ok (.ireturn, 1) := by decide +kernel
set_option maxRecDepth 20000 in
theorem ggX5_handsOfAll_X5_its : GoodIn wsX5_handsOfAll wsX5_its := goodIn_r _ [6, 1, 10, 11, 12, 13, 14, 15, 16, 17, 18, 19, 20, 21, 22, 23, 24, 25, 26, 27, 28, 29, 30, 31, 32, 33, 34, 35, 36, 37, 38, 39] (by decide +kernel) (by decide +kernel)
set_option maxRecDepth 20000 in
theorem gX5_handsOfAll_X5_its : GoodIn wsX5_handsOfAll (wsV RX5 210 RX5 yX5_its wsX5_its) := goodIn_app (goodIn_of _ (by decide +kernel)) ggX5_handsOfAll_X5_its
set_option maxRecDepth 20000 in
theorem ggX5_handsOfAll_X5_ones : GoodIn wsX5_handsOfAll wsX5_ones := goodIn_r _ [9] (by decide +kernel) (by decide +kernel)
set_option maxRecDepth 20000 in
theorem gX5_handsOfAll_X5_ones : GoodIn wsX5_handsOfAll (va_wsS RX5 216 yX5_ones wsX5_ones) := goodIn_app (goodIn_of _ (by decide +kernel)) ggX5_handsOfAll_X5_ones
theorem dX5_handsOfAll_0 : decode cX5_handsOfAll 0 = .ok (.iconst 0, 1) := by decide +kernel
theorem dX5_handsOfAll_1 : decode cX5_handsOfAll 1 = .ok (.istore_n 1, 1) := by decide +kernel
theorem dX5_handsOfAll_2 : decode cX5_handsOfAll 2 = .ok (.iconst 0, 1) := by decide +kernel
theorem dX5_handsOfAll_3 : decode cX5_handsOfAll 3 = .ok (.istore_n 2, 1) := by decide +kernel
theorem dX5_handsOfAll_4 : decode cX5_handsOfAll 4 = .ok (.iload_n 2, 1) := by decide +kernel
theorem dX5_handsOfAll_5 : decode cX5_handsOfAll 5 = .ok (.aload_n 0, 1) := by decide +kernel
theorem dX5_handsOfAll_6 : decode cX5_handsOfAll 6 = .ok (.getfield 7, 3) := by decide +kernel
theorem dX5_handsOfAll_9 : decode cX5_handsOfAll 9 = .ok (.bipush 6, 2) := by decide +kernel
theorem dX5_handsOfAll_11 : decode cX5_handsOfAll 11 = .ok (.iaload, 1) := by decide +kernel
theorem dX5_handsOfAll_12 : decode cX5_handsOfAll 12 = .ok (.if_icmp .ge 20, 3) := by decide +kernel
theorem dX5_handsOfAll_15 : decode cX5_handsOfAll 15 = .ok (.iload_n 1, 1) := by decide +kernel
theorem dX5_handsOfAll_16 : decode cX5_handsOfAll 16 = .ok (.iconst 1, 1) := by decide +kernel
theorem dX5_handsOfAll_17 : decode cX5_handsOfAll 17 = .ok (.aload_n 0, 1) := by decide +kernel
theorem dX5_handsOfAll_18 : decode cX5_handsOfAll 18 = .ok (.iload_n 2, 1) := by decide +kernel
theorem dX5_handsOfAll_19 : decode cX5_handsOfAll 19 = .ok (.iconst 1, 1) := by decide +kernel
theorem dX5_handsOfAll_20 : decode cX5_handsOfAll 20 = .ok (.invokevirtual 210, 3) := by decide +kernel
theorem dX5_handsOfAll_23 : decode cX5_handsOfAll 23 = .ok (.ishl, 1) := by decide +kernel
theorem dX5_handsOfAll_24 : decode cX5_handsOfAll 24 = .ok (.ior, 1) := by decide +kernel
theorem dX5_handsOfAll_25 : decode cX5_handsOfAll 25 = .ok (.istore_n 1, 1) := by decide +kernel
theorem dX5_handsOfAll_26 : decode cX5_handsOfAll 26 = .ok (.iinc 2 1, 3) := by decide +kernel
theorem dX5_handsOfAll_29 : decode cX5_handsOfAll 29 = .ok (.goto (-25), 3) := by decide +kernel
theorem dX5_handsOfAll_32 : decode cX5_handsOfAll 32 = .ok (.iload_n 1, 1) := by decide +kernel
theorem dX5_handsOfAll_33 : decode cX5_handsOfAll 33 = .ok (.invokestatic 216, 3) := by decide +kernel
theorem dX5_handsOfAll_36 : decode cX5_handsOfAll 36 = .ok (.ireturn, 1) := by decide +kernel
set_option maxRecDepth 20000 in
theorem ggX5_hands_X5_handsOfAll : GoodIn wsX5_hands wsX5_handsOfAll := goodIn_r _ [5, 6, 7, 8, 9, 4, 10, 11, 12, 13, 25, 26, 27, 28, 29, 30, 31, 32, 33, 34, 35, 36, 37, 38, 39, 40, 41, 42, 43, 44, 45, 46, 47, 48, 49, 50, 51, 52, 53, 54] (by decide +kernel) (by decide +kernel)
set_option maxRecDepth 20000 in
theorem gX5_hands_X5_handsOfAll : GoodIn wsX5_hands (wsV RX5 291 RX5 yX5_handsOfAll wsX5_handsOfAll) := goodIn_app (goodIn_of _ (by decide +kernel)) ggX5_hands_X5_handsOfAll
set_option maxRecDepth 20000 in
theorem ggX5_hands_X5_isOne : GoodIn wsX5_hands wsX5_isOne := goodIn_r _ [17, 6, 18, 19, 4, 20, 25, 26, 27, 28, 29, 30, 31, 32, 33, 34, 35, 36, 37, 38, 39, 40, 41, 42, 43, 44, 45, 46, 47, 48, 49, 50, 51, 52, 53, 54] (by decide +kernel) (by decide +kernel)
set_option maxRecDepth 20000 in
theorem gX5_hands_X5_isOne : GoodIn wsX5_hands (wsV RX5 207 RX5 yX5_isOne wsX5_isOne) := goodIn_app (goodIn_of _ (by decide +kernel)) ggX5_hands_X5_isOne
set_option maxRecDepth 20000 in
theorem ggX5_hands_X5_sameHand : GoodIn wsX5_hands wsX5_sameHand := goodIn_r _ [24, 6, 7, 8, 9, 4, 10, 25, 26, 27, 28, 29, 30, 31, 32, 33, 34, 35, 36, 37, 38, 39, 40, 41, 42, 43, 44, 45, 46, 47, 48, 49, 50, 51, 52, 53, 54] (by decide +kernel) (by decide +kernel)
set_option maxRecDepth 20000 in
theorem gX5_hands_X5_sameHand : GoodIn wsX5_hands (wsV RX5 294 RX5 yX5_sameHand wsX5_sameHand) := goodIn_app (goodIn_of _ (by decide +kernel)) ggX5_hands_X5_sameHand
theorem dX5_hands_0 : decode cX5_hands 0 = .ok (.iload_n 1, 1) := by decide +kernel
theorem dX5_hands_1 : decode cX5_hands 1 = .ok (.ifCond .ne 8, 3) := by decide +kernel
theorem dX5_hands_4 : decode cX5_hands 4 = .ok (.aload_n 0, 1) := by decide +kernel
theorem dX5_hands_5 : decode cX5_hands 5 = .ok (.invokevirtual 291, 3) := by decide +kernel
theorem dX5_hands_8 : decode cX5_hands 8 = .ok (.ireturn, 1) := by decide +kernel
theorem dX5_hands_9 : decode cX5_hands 9 = .ok (.iload_n 1, 1) := by decide +kernel
theorem dX5_hands_10 : decode cX5_hands 10 = .ok (.iconst 1, 1) := by decide +kernel
theorem dX5_hands_11 : decode cX5_hands 11 = .ok (.if_icmp .ne 19, 3) := by decide +kernel
theorem dX5_hands_14 : decode cX5_hands 14 = .ok (.aload_n 0, 1) := by decide +kernel
theorem dX5_hands_15 : decode cX5_hands 15 = .ok (.iload_n 2, 1) := by decide +kernel
theorem dX5_hands_16 : decode cX5_hands 16 = .ok (.invokevirtual 207, 3) := by decide +kernel
theorem dX5_hands_19 : decode cX5_hands 19 = .ok (.ifCond .eq 11, 3) := by decide +kernel
theorem dX5_hands_22 : decode cX5_hands 22 = .ok (.aload_n 0, 1) := by decide +kernel
theorem dX5_hands_23 : decode cX5_hands 23 = .ok (.iload_n 2, 1) := by decide +kernel
theorem dX5_hands_24 : decode cX5_hands 24 = .ok (.invokevirtual 294, 3) := by decide +kernel
theorem dX5_hands_27 : decode cX5_hands 27 = .ok (.goto 4, 3) := by decide +kernel
theorem dX5_hands_30 : decode cX5_hands 30 = .ok (.iconst (-1), 1) := by decide +kernel
theorem dX5_hands_31 : decode cX5_hands 31 = .ok (.ireturn, 1) := by decide +kernel
set_option maxRecDepth 20000 in
theorem ggX5_isSo_X5_nightGoes : GoodIn wsX5_isSo wsX5_nightGoes := goodIn_r _ [10, 5, 11, 12, 13, 14, 15, 16, 9, 17, 18, 19, 20, 21, 22, 23, 24, 25, 26, 27, 28, 29, 30, 31, 32, 33, 34, 35, 36, 37, 38, 39, 40, 41, 42, 43, 44, 45, 46, 47, 48, 49, 50, 51, 52, 53, 54, 55, 56, 57, 58, 59, 60, 61, 62, 63, 64, 65, 66, 67, 68, 69, 70, 71, 72, 73, 74, 75, 79, 80, 81, 82, 83, 84, 85, 86, 87, 88, 89, 90, 91, 92, 93, 94, 95, 96, 97, 98, 99, 100, 101, 102, 103, 104, 105, 106, 107, 108] (by decide +kernel) (by decide +kernel)
set_option maxRecDepth 20000 in
theorem gX5_isSo_X5_nightGoes : GoodIn wsX5_isSo (wsV RX5 259 RX5 yX5_nightGoes wsX5_nightGoes) := goodIn_app (goodIn_of _ (by decide +kernel)) ggX5_isSo_X5_nightGoes
set_option maxRecDepth 20000 in
theorem ggX5_isSo_X5_its : GoodIn wsX5_isSo wsX5_its := goodIn_r _ [21, 5, 79, 80, 81, 82, 83, 84, 85, 86, 87, 88, 89, 90, 91, 92, 93, 94, 95, 96, 97, 98, 99, 100, 101, 102, 103, 104, 105, 106, 107, 108] (by decide +kernel) (by decide +kernel)
set_option maxRecDepth 20000 in
theorem gX5_isSo_X5_its : GoodIn wsX5_isSo (wsV RX5 210 RX5 yX5_its wsX5_its) := goodIn_app (goodIn_of _ (by decide +kernel)) ggX5_isSo_X5_its
set_option maxRecDepth 20000 in
theorem ggX5_isSo_X5_moveAll : GoodIn wsX5_isSo wsX5_moveAll := goodIn_r _ [78] (by decide +kernel) (by decide +kernel)
set_option maxRecDepth 20000 in
theorem gX5_isSo_X5_moveAll : GoodIn wsX5_isSo (va_wsS RX5 186 yX5_moveAll wsX5_moveAll) := goodIn_app (goodIn_of _ (by decide +kernel)) ggX5_isSo_X5_moveAll
theorem dX5_isSo_0 : decode cX5_isSo 0 = .ok (.iconst 1, 1) := by decide +kernel
theorem dX5_isSo_1 : decode cX5_isSo 1 = .ok (.istore_n 3, 1) := by decide +kernel
theorem dX5_isSo_2 : decode cX5_isSo 2 = .ok (.iconst 0, 1) := by decide +kernel
theorem dX5_isSo_3 : decode cX5_isSo 3 = .ok (.istore 4, 2) := by decide +kernel
theorem dX5_isSo_5 : decode cX5_isSo 5 = .ok (.iload 4, 2) := by decide +kernel
theorem dX5_isSo_7 : decode cX5_isSo 7 = .ok (.aload_n 0, 1) := by decide +kernel
theorem dX5_isSo_8 : decode cX5_isSo 8 = .ok (.getfield 37, 3) := by decide +kernel
theorem dX5_isSo_11 : decode cX5_isSo 11 = .ok (.iload_n 1, 1) := by decide +kernel
theorem dX5_isSo_12 : decode cX5_isSo 12 = .ok (.iaload, 1) := by decide +kernel
theorem dX5_isSo_13 : decode cX5_isSo 13 = .ok (.if_icmp .ge 65, 3) := by decide +kernel
theorem dX5_isSo_16 : decode cX5_isSo 16 = .ok (.iload_n 3, 1) := by decide +kernel
theorem dX5_isSo_17 : decode cX5_isSo 17 = .ok (.ifCond .eq 61, 3) := by decide +kernel
theorem dX5_isSo_20 : decode cX5_isSo 20 = .ok (.aload_n 0, 1) := by decide +kernel
theorem dX5_isSo_21 : decode cX5_isSo 21 = .ok (.invokevirtual 259, 3) := by decide +kernel
theorem dX5_isSo_24 : decode cX5_isSo 24 = .ok (.aload_n 0, 1) := by decide +kernel
theorem dX5_isSo_25 : decode cX5_isSo 25 = .ok (.getfield 40, 3) := by decide +kernel
theorem dX5_isSo_28 : decode cX5_isSo 28 = .ok (.bipush 40, 2) := by decide +kernel
theorem dX5_isSo_30 : decode cX5_isSo 30 = .ok (.iload_n 1, 1) := by decide +kernel
theorem dX5_isSo_31 : decode cX5_isSo 31 = .ok (.imul, 1) := by decide +kernel
theorem dX5_isSo_32 : decode cX5_isSo 32 = .ok (.iload 4, 2) := by decide +kernel
theorem dX5_isSo_34 : decode cX5_isSo 34 = .ok (.iadd, 1) := by decide +kernel
theorem dX5_isSo_35 : decode cX5_isSo 35 = .ok (.laload, 1) := by decide +kernel
theorem dX5_isSo_36 : decode cX5_isSo 36 = .ok (.ldc2_w 100, 3) := by decide +kernel
theorem dX5_isSo_39 : decode cX5_isSo 39 = .ok (.lcmp, 1) := by decide +kernel
theorem dX5_isSo_40 : decode cX5_isSo 40 = .ok (.ifCond .eq 26, 3) := by decide +kernel
theorem dX5_isSo_43 : decode cX5_isSo 43 = .ok (.aload_n 0, 1) := by decide +kernel
theorem dX5_isSo_44 : decode cX5_isSo 44 = .ok (.getfield 40, 3) := by decide +kernel
theorem dX5_isSo_47 : decode cX5_isSo 47 = .ok (.bipush 40, 2) := by decide +kernel
theorem dX5_isSo_49 : decode cX5_isSo 49 = .ok (.iload_n 1, 1) := by decide +kernel
theorem dX5_isSo_50 : decode cX5_isSo 50 = .ok (.imul, 1) := by decide +kernel
theorem dX5_isSo_51 : decode cX5_isSo 51 = .ok (.iload 4, 2) := by decide +kernel
theorem dX5_isSo_53 : decode cX5_isSo 53 = .ok (.iadd, 1) := by decide +kernel
theorem dX5_isSo_54 : decode cX5_isSo 54 = .ok (.laload, 1) := by decide +kernel
theorem dX5_isSo_55 : decode cX5_isSo 55 = .ok (.aload_n 0, 1) := by decide +kernel
theorem dX5_isSo_56 : decode cX5_isSo 56 = .ok (.iload_n 2, 1) := by decide +kernel
theorem dX5_isSo_57 : decode cX5_isSo 57 = .ok (.iconst 3, 1) := by decide +kernel
theorem dX5_isSo_58 : decode cX5_isSo 58 = .ok (.invokevirtual 210, 3) := by decide +kernel
theorem dX5_isSo_61 : decode cX5_isSo 61 = .ok (.i2l, 1) := by decide +kernel
theorem dX5_isSo_62 : decode cX5_isSo 62 = .ok (.lcmp, 1) := by decide +kernel
theorem dX5_isSo_63 : decode cX5_isSo 63 = .ok (.ifCond .ne 7, 3) := by decide +kernel
theorem dX5_isSo_66 : decode cX5_isSo 66 = .ok (.iconst 1, 1) := by decide +kernel
theorem dX5_isSo_67 : decode cX5_isSo 67 = .ok (.goto 4, 3) := by decide +kernel
theorem dX5_isSo_70 : decode cX5_isSo 70 = .ok (.iconst 0, 1) := by decide +kernel
theorem dX5_isSo_71 : decode cX5_isSo 71 = .ok (.istore_n 3, 1) := by decide +kernel
theorem dX5_isSo_72 : decode cX5_isSo 72 = .ok (.iinc 4 1, 3) := by decide +kernel
theorem dX5_isSo_75 : decode cX5_isSo 75 = .ok (.goto (-70), 3) := by decide +kernel
theorem dX5_isSo_78 : decode cX5_isSo 78 = .ok (.aload_n 0, 1) := by decide +kernel
theorem dX5_isSo_79 : decode cX5_isSo 79 = .ok (.getfield 19, 3) := by decide +kernel
theorem dX5_isSo_82 : decode cX5_isSo 82 = .ok (.aload_n 0, 1) := by decide +kernel
theorem dX5_isSo_83 : decode cX5_isSo 83 = .ok (.getfield 7, 3) := by decide +kernel
theorem dX5_isSo_86 : decode cX5_isSo 86 = .ok (.invokestatic 186, 3) := by decide +kernel
theorem dX5_isSo_89 : decode cX5_isSo 89 = .ok (.iload_n 3, 1) := by decide +kernel
theorem dX5_isSo_90 : decode cX5_isSo 90 = .ok (.ireturn, 1) := by decide +kernel
set_option maxRecDepth 20000 in
theorem ggX5_fits_X5_isShelf : GoodIn wsX5_fits wsX5_isShelf := goodIn_r _ [7, 8, 9, 6, 10] (by decide +kernel) (by decide +kernel)
set_option maxRecDepth 20000 in
theorem gX5_fits_X5_isShelf : GoodIn wsX5_fits (va_wsS RX5 297 yX5_isShelf wsX5_isShelf) := goodIn_app (goodIn_of _ (by decide +kernel)) ggX5_fits_X5_isShelf
set_option maxRecDepth 20000 in
theorem ggX5_fits_X5_isOne : GoodIn wsX5_fits wsX5_isOne := goodIn_r _ [14, 2, 8, 9, 6, 10, 94, 95, 96, 97, 98, 99, 100, 101, 102, 103, 104, 105, 106, 107, 108, 109, 110, 111, 112, 113, 114, 115, 116, 117, 118, 119, 120, 121, 122, 123] (by decide +kernel) (by decide +kernel)
set_option maxRecDepth 20000 in
theorem gX5_fits_X5_isOne : GoodIn wsX5_fits (wsV RX5 207 RX5 yX5_isOne wsX5_isOne) := goodIn_app (goodIn_of _ (by decide +kernel)) ggX5_fits_X5_isOne
set_option maxRecDepth 20000 in
theorem ggX5_fits_X5_in : GoodIn wsX5_fits wsX5_in := goodIn_r _ [10] (by decide +kernel) (by decide +kernel)
set_option maxRecDepth 20000 in
theorem gX5_fits_X5_in : GoodIn wsX5_fits (va_wsS RX5 60 yX5_in wsX5_in) := goodIn_app (goodIn_of _ (by decide +kernel)) ggX5_fits_X5_in
set_option maxRecDepth 20000 in
theorem ggX5_fits_X5_moveAll : GoodIn wsX5_fits wsX5_moveAll := goodIn_r _ [17] (by decide +kernel) (by decide +kernel)
set_option maxRecDepth 20000 in
theorem gX5_fits_X5_moveAll : GoodIn wsX5_fits (va_wsS RX5 186 yX5_moveAll wsX5_moveAll) := goodIn_app (goodIn_of _ (by decide +kernel)) ggX5_fits_X5_moveAll
set_option maxRecDepth 20000 in
theorem ggX5_fits_X5_sets : GoodIn wsX5_fits wsX5_sets := goodIn_r _ [21, 2, 94, 95, 96, 97, 98, 99, 100, 101, 102, 103, 104, 105, 106, 107, 108, 109, 110, 111, 112, 113, 114, 115, 116, 117, 118, 119, 120, 121, 122, 123] (by decide +kernel) (by decide +kernel)
set_option maxRecDepth 20000 in
theorem gX5_fits_X5_sets : GoodIn wsX5_fits (wsV RX5 203 RX5 yX5_sets wsX5_sets) := goodIn_app (goodIn_of _ (by decide +kernel)) ggX5_fits_X5_sets
set_option maxRecDepth 20000 in
theorem ggX5_fits_X5_isSo : GoodIn wsX5_fits wsX5_isSo := goodIn_r _ [25, 26, 27, 28, 3, 2, 29, 30, 31, 6, 32, 33, 34, 35, 36, 37, 38, 39, 40, 41, 42, 43, 44, 45, 46, 47, 48, 49, 50, 18, 19, 20, 21, 51, 52, 53, 54, 55, 56, 57, 58, 59, 60, 61, 62, 63, 64, 65, 66, 67, 68, 69, 70, 71, 72, 73, 74, 75, 76, 77, 78, 79, 80, 81, 82, 83, 84, 85, 86, 87, 88, 89, 90, 91, 92, 93, 15, 16, 17, 94, 95, 96, 97, 98, 99, 100, 101, 102, 103, 104, 105, 106, 107, 108, 109, 110, 111, 112, 113, 114, 115, 116, 117, 118, 119, 120, 121, 122, 123] (by decide +kernel) (by decide +kernel)
set_option maxRecDepth 20000 in
theorem gX5_fits_X5_isSo : GoodIn wsX5_fits (wsV RX5 300 RX5 yX5_isSo wsX5_isSo) := goodIn_app (goodIn_of _ (by decide +kernel)) ggX5_fits_X5_isSo
theorem dX5_fits_0 : decode cX5_fits 0 = .ok (.iload_n 1, 1) := by decide +kernel
theorem dX5_fits_1 : decode cX5_fits 1 = .ok (.invokestatic 297, 3) := by decide +kernel
theorem dX5_fits_4 : decode cX5_fits 4 = .ok (.ifCond .eq 20, 3) := by decide +kernel
theorem dX5_fits_7 : decode cX5_fits 7 = .ok (.aload_n 0, 1) := by decide +kernel
theorem dX5_fits_8 : decode cX5_fits 8 = .ok (.iload_n 2, 1) := by decide +kernel
theorem dX5_fits_9 : decode cX5_fits 9 = .ok (.invokevirtual 207, 3) := by decide +kernel
theorem dX5_fits_12 : decode cX5_fits 12 = .ok (.ifCond .eq 12, 3) := by decide +kernel
theorem dX5_fits_15 : decode cX5_fits 15 = .ok (.iload_n 3, 1) := by decide +kernel
theorem dX5_fits_16 : decode cX5_fits 16 = .ok (.iconst 0, 1) := by decide +kernel
theorem dX5_fits_17 : decode cX5_fits 17 = .ok (.iconst 1, 1) := by decide +kernel
theorem dX5_fits_18 : decode cX5_fits 18 = .ok (.invokestatic 60, 3) := by decide +kernel
theorem dX5_fits_21 : decode cX5_fits 21 = .ok (.ifCond .ne 5, 3) := by decide +kernel
theorem dX5_fits_24 : decode cX5_fits 24 = .ok (.iconst (-1), 1) := by decide +kernel
theorem dX5_fits_25 : decode cX5_fits 25 = .ok (.ireturn, 1) := by decide +kernel
theorem dX5_fits_26 : decode cX5_fits 26 = .ok (.aload_n 0, 1) := by decide +kernel
theorem dX5_fits_27 : decode cX5_fits 27 = .ok (.getfield 34, 3) := by decide +kernel
theorem dX5_fits_30 : decode cX5_fits 30 = .ok (.iload_n 1, 1) := by decide +kernel
theorem dX5_fits_31 : decode cX5_fits 31 = .ok (.iaload, 1) := by decide +kernel
theorem dX5_fits_32 : decode cX5_fits 32 = .ok (.ifCond .ge 6, 3) := by decide +kernel
theorem dX5_fits_35 : decode cX5_fits 35 = .ok (.bipush (-11), 2) := by decide +kernel
theorem dX5_fits_37 : decode cX5_fits 37 = .ok (.ireturn, 1) := by decide +kernel
theorem dX5_fits_38 : decode cX5_fits 38 = .ok (.aload_n 0, 1) := by decide +kernel
theorem dX5_fits_39 : decode cX5_fits 39 = .ok (.getfield 7, 3) := by decide +kernel
theorem dX5_fits_42 : decode cX5_fits 42 = .ok (.aload_n 0, 1) := by decide +kernel
theorem dX5_fits_43 : decode cX5_fits 43 = .ok (.getfield 19, 3) := by decide +kernel
theorem dX5_fits_46 : decode cX5_fits 46 = .ok (.invokestatic 186, 3) := by decide +kernel
theorem dX5_fits_49 : decode cX5_fits 49 = .ok (.iconst 0, 1) := by decide +kernel
theorem dX5_fits_50 : decode cX5_fits 50 = .ok (.istore 4, 2) := by decide +kernel
theorem dX5_fits_52 : decode cX5_fits 52 = .ok (.bipush (-3), 2) := by decide +kernel
theorem dX5_fits_54 : decode cX5_fits 54 = .ok (.istore 5, 2) := by decide +kernel
theorem dX5_fits_56 : decode cX5_fits 56 = .ok (.bipush 9, 2) := by decide +kernel
theorem dX5_fits_58 : decode cX5_fits 58 = .ok (.istore 6, 2) := by decide +kernel
theorem dX5_fits_60 : decode cX5_fits 60 = .ok (.iload 6, 2) := by decide +kernel
theorem dX5_fits_62 : decode cX5_fits 62 = .ok (.ifCond .lt 54, 3) := by decide +kernel
theorem dX5_fits_65 : decode cX5_fits 65 = .ok (.aload_n 0, 1) := by decide +kernel
theorem dX5_fits_66 : decode cX5_fits 66 = .ok (.iload_n 2, 1) := by decide +kernel
theorem dX5_fits_67 : decode cX5_fits 67 = .ok (.iconst 1, 1) := by decide +kernel
theorem dX5_fits_68 : decode cX5_fits 68 = .ok (.iload 6, 2) := by decide +kernel
theorem dX5_fits_70 : decode cX5_fits 70 = .ok (.invokevirtual 203, 3) := by decide +kernel
theorem dX5_fits_73 : decode cX5_fits 73 = .ok (.aload_n 0, 1) := by decide +kernel
theorem dX5_fits_74 : decode cX5_fits 74 = .ok (.iload_n 1, 1) := by decide +kernel
theorem dX5_fits_75 : decode cX5_fits 75 = .ok (.iload_n 2, 1) := by decide +kernel
theorem dX5_fits_76 : decode cX5_fits 76 = .ok (.invokevirtual 300, 3) := by decide +kernel
theorem dX5_fits_79 : decode cX5_fits 79 = .ok (.istore 7, 2) := by decide +kernel
theorem dX5_fits_81 : decode cX5_fits 81 = .ok (.iload 4, 2) := by decide +kernel
theorem dX5_fits_83 : decode cX5_fits 83 = .ok (.iload 7, 2) := by decide +kernel
theorem dX5_fits_85 : decode cX5_fits 85 = .ok (.ifCond .eq 7, 3) := by decide +kernel
theorem dX5_fits_88 : decode cX5_fits 88 = .ok (.iconst 1, 1) := by decide +kernel
theorem dX5_fits_89 : decode cX5_fits 89 = .ok (.goto 4, 3) := by decide +kernel
theorem dX5_fits_92 : decode cX5_fits 92 = .ok (.iconst 0, 1) := by decide +kernel
theorem dX5_fits_93 : decode cX5_fits 93 = .ok (.iadd, 1) := by decide +kernel
theorem dX5_fits_94 : decode cX5_fits 94 = .ok (.istore 4, 2) := by decide +kernel
theorem dX5_fits_96 : decode cX5_fits 96 = .ok (.iload 7, 2) := by decide +kernel
theorem dX5_fits_98 : decode cX5_fits 98 = .ok (.ifCond .eq 8, 3) := by decide +kernel
theorem dX5_fits_101 : decode cX5_fits 101 = .ok (.iload 6, 2) := by decide +kernel
theorem dX5_fits_103 : decode cX5_fits 103 = .ok (.goto 5, 3) := by decide +kernel
theorem dX5_fits_106 : decode cX5_fits 106 = .ok (.iload 5, 2) := by decide +kernel
theorem dX5_fits_108 : decode cX5_fits 108 = .ok (.istore 5, 2) := by decide +kernel
theorem dX5_fits_110 : decode cX5_fits 110 = .ok (.iinc 6 (-1), 3) := by decide +kernel
theorem dX5_fits_113 : decode cX5_fits 113 = .ok (.goto (-53), 3) := by decide +kernel
theorem dX5_fits_116 : decode cX5_fits 116 = .ok (.iload_n 3, 1) := by decide +kernel
theorem dX5_fits_117 : decode cX5_fits 117 = .ok (.ifCond .ne 8, 3) := by decide +kernel
theorem dX5_fits_120 : decode cX5_fits 120 = .ok (.iload 4, 2) := by decide +kernel
theorem dX5_fits_122 : decode cX5_fits 122 = .ok (.goto 5, 3) := by decide +kernel
theorem dX5_fits_125 : decode cX5_fits 125 = .ok (.iload 5, 2) := by decide +kernel
theorem dX5_fits_127 : decode cX5_fits 127 = .ok (.ireturn, 1) := by decide +kernel
theorem dX5_lowest_0 : decode cX5_lowest 0 = .ok (.lload_n 2, 1) := by decide +kernel
theorem dX5_lowest_1 : decode cX5_lowest 1 = .ok (.lstore 5, 2) := by decide +kernel
theorem dX5_lowest_3 : decode cX5_lowest 3 = .ok (.lload_n 0, 1) := by decide +kernel
theorem dX5_lowest_4 : decode cX5_lowest 4 = .ok (.lstore 7, 2) := by decide +kernel
theorem dX5_lowest_6 : decode cX5_lowest 6 = .ok (.lload 7, 2) := by decide +kernel
theorem dX5_lowest_8 : decode cX5_lowest 8 = .ok (.lconst 0, 1) := by decide +kernel
theorem dX5_lowest_9 : decode cX5_lowest 9 = .ok (.lcmp, 1) := by decide +kernel
theorem dX5_lowest_10 : decode cX5_lowest 10 = .ok (.ifCond .eq 21, 3) := by decide +kernel
theorem dX5_lowest_13 : decode cX5_lowest 13 = .ok (.lload 5, 2) := by decide +kernel
theorem dX5_lowest_15 : decode cX5_lowest 15 = .ok (.lload 7, 2) := by decide +kernel
theorem dX5_lowest_17 : decode cX5_lowest 17 = .ok (.lrem, 1) := by decide +kernel
theorem dX5_lowest_18 : decode cX5_lowest 18 = .ok (.lstore 9, 2) := by decide +kernel
theorem dX5_lowest_20 : decode cX5_lowest 20 = .ok (.lload 7, 2) := by decide +kernel
theorem dX5_lowest_22 : decode cX5_lowest 22 = .ok (.lstore 5, 2) := by decide +kernel
theorem dX5_lowest_24 : decode cX5_lowest 24 = .ok (.lload 9, 2) := by decide +kernel
theorem dX5_lowest_26 : decode cX5_lowest 26 = .ok (.lstore 7, 2) := by decide +kernel
theorem dX5_lowest_28 : decode cX5_lowest 28 = .ok (.goto (-22), 3) := by decide +kernel
theorem dX5_lowest_31 : decode cX5_lowest 31 = .ok (.iload 4, 2) := by decide +kernel
theorem dX5_lowest_33 : decode cX5_lowest 33 = .ok (.ifCond .ne 10, 3) := by decide +kernel
theorem dX5_lowest_36 : decode cX5_lowest 36 = .ok (.lload_n 0, 1) := by decide +kernel
theorem dX5_lowest_37 : decode cX5_lowest 37 = .ok (.lload 5, 2) := by decide +kernel
theorem dX5_lowest_39 : decode cX5_lowest 39 = .ok (.ldiv, 1) := by decide +kernel
theorem dX5_lowest_40 : decode cX5_lowest 40 = .ok (.goto 7, 3) := by decide +kernel
theorem dX5_lowest_43 : decode cX5_lowest 43 = .ok (.lload_n 2, 1) := by decide +kernel
theorem dX5_lowest_44 : decode cX5_lowest 44 = .ok (.lload 5, 2) := by decide +kernel
theorem dX5_lowest_46 : decode cX5_lowest 46 = .ok (.ldiv, 1) := by decide +kernel
theorem dX5_lowest_47 : decode cX5_lowest 47 = .ok (.lreturn, 1) := by decide +kernel
theorem dX5_powerOf_0 : decode cX5_powerOf 0 = .ok (.lconst 1, 1) := by decide +kernel
theorem dX5_powerOf_1 : decode cX5_powerOf 1 = .ok (.lstore_n 2, 1) := by decide +kernel
theorem dX5_powerOf_2 : decode cX5_powerOf 2 = .ok (.iconst 0, 1) := by decide +kernel
theorem dX5_powerOf_3 : decode cX5_powerOf 3 = .ok (.istore 4, 2) := by decide +kernel
theorem dX5_powerOf_5 : decode cX5_powerOf 5 = .ok (.iload 4, 2) := by decide +kernel
theorem dX5_powerOf_7 : decode cX5_powerOf 7 = .ok (.iload_n 1, 1) := by decide +kernel
theorem dX5_powerOf_8 : decode cX5_powerOf 8 = .ok (.if_icmp .ge 14, 3) := by decide +kernel
theorem dX5_powerOf_11 : decode cX5_powerOf 11 = .ok (.lload_n 2, 1) := by decide +kernel
theorem dX5_powerOf_12 : decode cX5_powerOf 12 = .ok (.iload_n 0, 1) := by decide +kernel
theorem dX5_powerOf_13 : decode cX5_powerOf 13 = .ok (.i2l, 1) := by decide +kernel
theorem dX5_powerOf_14 : decode cX5_powerOf 14 = .ok (.lmul, 1) := by decide +kernel
theorem dX5_powerOf_15 : decode cX5_powerOf 15 = .ok (.lstore_n 2, 1) := by decide +kernel
theorem dX5_powerOf_16 : decode cX5_powerOf 16 = .ok (.iinc 4 1, 3) := by decide +kernel
theorem dX5_powerOf_19 : decode cX5_powerOf 19 = .ok (.goto (-14), 3) := by decide +kernel
theorem dX5_powerOf_22 : decode cX5_powerOf 22 = .ok (.lload_n 2, 1) := by decide +kernel
theorem dX5_powerOf_23 : decode cX5_powerOf 23 = .ok (.lreturn, 1) := by decide +kernel
set_option maxRecDepth 20000 in
theorem ggX5_odds_X5_in : GoodIn wsX5_odds wsX5_in := goodIn_r _ [6] (by decide +kernel) (by decide +kernel)
set_option maxRecDepth 20000 in
theorem gX5_odds_X5_in : GoodIn wsX5_odds (va_wsS RX5 60 yX5_in wsX5_in) := goodIn_app (goodIn_of _ (by decide +kernel)) ggX5_odds_X5_in
set_option maxRecDepth 20000 in
theorem ggX5_odds_X5_powerOf : GoodIn wsX5_odds wsX5_powerOf := goodIn_r _ [9] (by decide +kernel) (by decide +kernel)
set_option maxRecDepth 20000 in
theorem gX5_odds_X5_powerOf : GoodIn wsX5_odds (va_wsS RX5 303 yX5_powerOf wsX5_powerOf) := goodIn_app (goodIn_of _ (by decide +kernel)) ggX5_odds_X5_powerOf
set_option maxRecDepth 20000 in
theorem ggX5_odds_X5_lowest : GoodIn wsX5_odds wsX5_lowest := goodIn_r _ [12] (by decide +kernel) (by decide +kernel)
set_option maxRecDepth 20000 in
theorem gX5_odds_X5_lowest : GoodIn wsX5_odds (va_wsS RX5 307 yX5_lowest wsX5_lowest) := goodIn_app (goodIn_of _ (by decide +kernel)) ggX5_odds_X5_lowest
theorem dX5_odds_0 : decode cX5_odds 0 = .ok (.iload_n 1, 1) := by decide +kernel
theorem dX5_odds_1 : decode cX5_odds 1 = .ok (.iconst 0, 1) := by decide +kernel
theorem dX5_odds_2 : decode cX5_odds 2 = .ok (.bipush 8, 2) := by decide +kernel
theorem dX5_odds_4 : decode cX5_odds 4 = .ok (.invokestatic 60, 3) := by decide +kernel
theorem dX5_odds_7 : decode cX5_odds 7 = .ok (.ifCond .eq 21, 3) := by decide +kernel
theorem dX5_odds_10 : decode cX5_odds 10 = .ok (.iload_n 2, 1) := by decide +kernel
theorem dX5_odds_11 : decode cX5_odds 11 = .ok (.iconst 0, 1) := by decide +kernel
theorem dX5_odds_12 : decode cX5_odds 12 = .ok (.iload_n 1, 1) := by decide +kernel
theorem dX5_odds_13 : decode cX5_odds 13 = .ok (.invokestatic 60, 3) := by decide +kernel
theorem dX5_odds_16 : decode cX5_odds 16 = .ok (.ifCond .eq 12, 3) := by decide +kernel
theorem dX5_odds_19 : decode cX5_odds 19 = .ok (.iload_n 3, 1) := by decide +kernel
theorem dX5_odds_20 : decode cX5_odds 20 = .ok (.iconst 0, 1) := by decide +kernel
theorem dX5_odds_21 : decode cX5_odds 21 = .ok (.iconst 1, 1) := by decide +kernel
theorem dX5_odds_22 : decode cX5_odds 22 = .ok (.invokestatic 60, 3) := by decide +kernel
theorem dX5_odds_25 : decode cX5_odds 25 = .ok (.ifCond .ne 7, 3) := by decide +kernel
theorem dX5_odds_28 : decode cX5_odds 28 = .ok (.ldc2_w 100, 3) := by decide +kernel
theorem dX5_odds_31 : decode cX5_odds 31 = .ok (.lreturn, 1) := by decide +kernel
theorem dX5_odds_32 : decode cX5_odds 32 = .ok (.lconst 1, 1) := by decide +kernel
theorem dX5_odds_33 : decode cX5_odds 33 = .ok (.lstore 4, 2) := by decide +kernel
theorem dX5_odds_35 : decode cX5_odds 35 = .ok (.iconst 0, 1) := by decide +kernel
theorem dX5_odds_36 : decode cX5_odds 36 = .ok (.istore 6, 2) := by decide +kernel
theorem dX5_odds_38 : decode cX5_odds 38 = .ok (.iload 6, 2) := by decide +kernel
theorem dX5_odds_40 : decode cX5_odds 40 = .ok (.iload_n 2, 1) := by decide +kernel
theorem dX5_odds_41 : decode cX5_odds 41 = .ok (.if_icmp .ge 25, 3) := by decide +kernel
theorem dX5_odds_44 : decode cX5_odds 44 = .ok (.lload 4, 2) := by decide +kernel
theorem dX5_odds_46 : decode cX5_odds 46 = .ok (.iload_n 1, 1) := by decide +kernel
theorem dX5_odds_47 : decode cX5_odds 47 = .ok (.iload 6, 2) := by decide +kernel
theorem dX5_odds_49 : decode cX5_odds 49 = .ok (.isub, 1) := by decide +kernel
theorem dX5_odds_50 : decode cX5_odds 50 = .ok (.i2l, 1) := by decide +kernel
theorem dX5_odds_51 : decode cX5_odds 51 = .ok (.lmul, 1) := by decide +kernel
theorem dX5_odds_52 : decode cX5_odds 52 = .ok (.iload 6, 2) := by decide +kernel
theorem dX5_odds_54 : decode cX5_odds 54 = .ok (.iconst 1, 1) := by decide +kernel
theorem dX5_odds_55 : decode cX5_odds 55 = .ok (.iadd, 1) := by decide +kernel
theorem dX5_odds_56 : decode cX5_odds 56 = .ok (.i2l, 1) := by decide +kernel
theorem dX5_odds_57 : decode cX5_odds 57 = .ok (.ldiv, 1) := by decide +kernel
theorem dX5_odds_58 : decode cX5_odds 58 = .ok (.lstore 4, 2) := by decide +kernel
theorem dX5_odds_60 : decode cX5_odds 60 = .ok (.iinc 6 1, 3) := by decide +kernel
theorem dX5_odds_63 : decode cX5_odds 63 = .ok (.goto (-25), 3) := by decide +kernel
theorem dX5_odds_66 : decode cX5_odds 66 = .ok (.lload 4, 2) := by decide +kernel
theorem dX5_odds_68 : decode cX5_odds 68 = .ok (.aload_n 0, 1) := by decide +kernel
theorem dX5_odds_69 : decode cX5_odds 69 = .ok (.getfield 7, 3) := by decide +kernel
theorem dX5_odds_72 : decode cX5_odds 72 = .ok (.iconst 3, 1) := by decide +kernel
theorem dX5_odds_73 : decode cX5_odds 73 = .ok (.iaload, 1) := by decide +kernel
theorem dX5_odds_74 : decode cX5_odds 74 = .ok (.iload_n 2, 1) := by decide +kernel
theorem dX5_odds_75 : decode cX5_odds 75 = .ok (.invokestatic 303, 3) := by decide +kernel
theorem dX5_odds_78 : decode cX5_odds 78 = .ok (.lmul, 1) := by decide +kernel
theorem dX5_odds_79 : decode cX5_odds 79 = .ok (.bipush 100, 2) := by decide +kernel
theorem dX5_odds_81 : decode cX5_odds 81 = .ok (.aload_n 0, 1) := by decide +kernel
theorem dX5_odds_82 : decode cX5_odds 82 = .ok (.getfield 7, 3) := by decide +kernel
theorem dX5_odds_85 : decode cX5_odds 85 = .ok (.iconst 3, 1) := by decide +kernel
theorem dX5_odds_86 : decode cX5_odds 86 = .ok (.iaload, 1) := by decide +kernel
theorem dX5_odds_87 : decode cX5_odds 87 = .ok (.isub, 1) := by decide +kernel
theorem dX5_odds_88 : decode cX5_odds 88 = .ok (.iload_n 1, 1) := by decide +kernel
theorem dX5_odds_89 : decode cX5_odds 89 = .ok (.iload_n 2, 1) := by decide +kernel
theorem dX5_odds_90 : decode cX5_odds 90 = .ok (.isub, 1) := by decide +kernel
theorem dX5_odds_91 : decode cX5_odds 91 = .ok (.invokestatic 303, 3) := by decide +kernel
theorem dX5_odds_94 : decode cX5_odds 94 = .ok (.lmul, 1) := by decide +kernel
theorem dX5_odds_95 : decode cX5_odds 95 = .ok (.bipush 100, 2) := by decide +kernel
theorem dX5_odds_97 : decode cX5_odds 97 = .ok (.iload_n 1, 1) := by decide +kernel
theorem dX5_odds_98 : decode cX5_odds 98 = .ok (.invokestatic 303, 3) := by decide +kernel
theorem dX5_odds_101 : decode cX5_odds 101 = .ok (.iload_n 3, 1) := by decide +kernel
theorem dX5_odds_102 : decode cX5_odds 102 = .ok (.invokestatic 307, 3) := by decide +kernel
theorem dX5_odds_105 : decode cX5_odds 105 = .ok (.lreturn, 1) := by decide +kernel
set_option maxRecDepth 20000 in
theorem ggX5_hope_X5_in : GoodIn wsX5_hope wsX5_in := goodIn_r _ [7] (by decide +kernel) (by decide +kernel)
set_option maxRecDepth 20000 in
theorem gX5_hope_X5_in : GoodIn wsX5_hope (va_wsS RX5 60 yX5_in wsX5_in) := goodIn_app (goodIn_of _ (by decide +kernel)) ggX5_hope_X5_in
set_option maxRecDepth 20000 in
theorem ggX5_hope_X5_lowest : GoodIn wsX5_hope wsX5_lowest := goodIn_r _ [10] (by decide +kernel) (by decide +kernel)
set_option maxRecDepth 20000 in
theorem gX5_hope_X5_lowest : GoodIn wsX5_hope (va_wsS RX5 307 yX5_lowest wsX5_lowest) := goodIn_app (goodIn_of _ (by decide +kernel)) ggX5_hope_X5_lowest
theorem dX5_hope_0 : decode cX5_hope 0 = .ok (.iload_n 1, 1) := by decide +kernel
theorem dX5_hope_1 : decode cX5_hope 1 = .ok (.iconst 0, 1) := by decide +kernel
theorem dX5_hope_2 : decode cX5_hope 2 = .ok (.bipush 99, 2) := by decide +kernel
theorem dX5_hope_4 : decode cX5_hope 4 = .ok (.invokestatic 60, 3) := by decide +kernel
theorem dX5_hope_7 : decode cX5_hope 7 = .ok (.ifCond .eq 32, 3) := by decide +kernel
theorem dX5_hope_10 : decode cX5_hope 10 = .ok (.iload_n 2, 1) := by decide +kernel
theorem dX5_hope_11 : decode cX5_hope 11 = .ok (.iconst 0, 1) := by decide +kernel
theorem dX5_hope_12 : decode cX5_hope 12 = .ok (.iconst 1, 1) := by decide +kernel
theorem dX5_hope_13 : decode cX5_hope 13 = .ok (.invokestatic 60, 3) := by decide +kernel
theorem dX5_hope_16 : decode cX5_hope 16 = .ok (.ifCond .eq 23, 3) := by decide +kernel
theorem dX5_hope_19 : decode cX5_hope 19 = .ok (.iload_n 1, 1) := by decide +kernel
theorem dX5_hope_20 : decode cX5_hope 20 = .ok (.i2l, 1) := by decide +kernel
theorem dX5_hope_21 : decode cX5_hope 21 = .ok (.aload_n 0, 1) := by decide +kernel
theorem dX5_hope_22 : decode cX5_hope 22 = .ok (.getfield 7, 3) := by decide +kernel
theorem dX5_hope_25 : decode cX5_hope 25 = .ok (.iconst 3, 1) := by decide +kernel
theorem dX5_hope_26 : decode cX5_hope 26 = .ok (.iaload, 1) := by decide +kernel
theorem dX5_hope_27 : decode cX5_hope 27 = .ok (.i2l, 1) := by decide +kernel
theorem dX5_hope_28 : decode cX5_hope 28 = .ok (.lmul, 1) := by decide +kernel
theorem dX5_hope_29 : decode cX5_hope 29 = .ok (.ldc2_w 311, 3) := by decide +kernel
theorem dX5_hope_32 : decode cX5_hope 32 = .ok (.iload_n 2, 1) := by decide +kernel
theorem dX5_hope_33 : decode cX5_hope 33 = .ok (.invokestatic 307, 3) := by decide +kernel
theorem dX5_hope_36 : decode cX5_hope 36 = .ok (.goto 6, 3) := by decide +kernel
theorem dX5_hope_39 : decode cX5_hope 39 = .ok (.ldc2_w 100, 3) := by decide +kernel
theorem dX5_hope_42 : decode cX5_hope 42 = .ok (.lreturn, 1) := by decide +kernel
set_option maxRecDepth 20000 in
theorem ggX5_findRows_X5_moveAll : GoodIn wsX5_findRows wsX5_moveAll := goodIn_r _ [7] (by decide +kernel) (by decide +kernel)
set_option maxRecDepth 20000 in
theorem gX5_findRows_X5_moveAll : GoodIn wsX5_findRows (va_wsS RX5 186 yX5_moveAll wsX5_moveAll) := goodIn_app (goodIn_of _ (by decide +kernel)) ggX5_findRows_X5_moveAll
set_option maxRecDepth 20000 in
theorem ggX5_findRows_X5_nightGoes : GoodIn wsX5_findRows wsX5_nightGoes := goodIn_r _ [11, 1, 12, 13, 14, 15, 16, 17, 6, 18, 19, 20, 21, 22, 23, 24, 25, 26, 27, 28, 29, 30, 31, 32, 33, 34, 35, 36, 37, 38, 39, 40, 41, 42, 43, 44, 45, 46, 47, 48, 49, 50, 51, 52, 53, 54, 55, 56, 57, 58, 59, 60, 61, 62, 63, 64, 65, 66, 67, 68, 69, 70, 71, 72, 73, 74, 75, 76, 77, 78, 79, 80, 81, 82, 83, 84, 85, 86, 87, 88, 89, 90, 91, 92, 93, 94, 95, 96, 97, 98, 99, 100, 101, 102, 103, 104, 105, 106] (by decide +kernel) (by decide +kernel)
set_option maxRecDepth 20000 in
theorem gX5_findRows_X5_nightGoes : GoodIn wsX5_findRows (wsV RX5 259 RX5 yX5_nightGoes wsX5_nightGoes) := goodIn_app (goodIn_of _ (by decide +kernel)) ggX5_findRows_X5_nightGoes
set_option maxRecDepth 20000 in
theorem ggX5_findRows_X5_its : GoodIn wsX5_findRows wsX5_its := goodIn_r _ [22, 1, 77, 78, 79, 80, 81, 82, 83, 84, 85, 86, 87, 88, 89, 90, 91, 92, 93, 94, 95, 96, 97, 98, 99, 100, 101, 102, 103, 104, 105, 106] (by decide +kernel) (by decide +kernel)
set_option maxRecDepth 20000 in
theorem gX5_findRows_X5_its : GoodIn wsX5_findRows (wsV RX5 210 RX5 yX5_its wsX5_its) := goodIn_app (goodIn_of _ (by decide +kernel)) ggX5_findRows_X5_its
set_option maxRecDepth 20000 in
theorem ggX5_findRows_X5_looksOfAll : GoodIn wsX5_findRows wsX5_looksOfAll := goodIn_r _ [76, 61, 62, 63, 6, 64, 1, 19, 20, 21, 22, 77, 78, 79, 80, 81, 82, 83, 84, 85, 86, 87, 88, 89, 90, 91, 92, 93, 94, 95, 96, 97, 98, 99, 100, 101, 102, 103, 104, 105, 106] (by decide +kernel) (by decide +kernel)
set_option maxRecDepth 20000 in
theorem gX5_findRows_X5_looksOfAll : GoodIn wsX5_findRows (wsV RX5 252 RX5 yX5_looksOfAll wsX5_looksOfAll) := goodIn_app (goodIn_of _ (by decide +kernel)) ggX5_findRows_X5_looksOfAll
theorem dX5_findRows_0 : decode cX5_findRows 0 = .ok (.aload_n 0, 1) := by decide +kernel
theorem dX5_findRows_1 : decode cX5_findRows 1 = .ok (.getfield 7, 3) := by decide +kernel
theorem dX5_findRows_4 : decode cX5_findRows 4 = .ok (.aload_n 0, 1) := by decide +kernel
theorem dX5_findRows_5 : decode cX5_findRows 5 = .ok (.getfield 19, 3) := by decide +kernel
theorem dX5_findRows_8 : decode cX5_findRows 8 = .ok (.invokestatic 186, 3) := by decide +kernel
theorem dX5_findRows_11 : decode cX5_findRows 11 = .ok (.iconst 0, 1) := by decide +kernel
theorem dX5_findRows_12 : decode cX5_findRows 12 = .ok (.istore_n 3, 1) := by decide +kernel
theorem dX5_findRows_13 : decode cX5_findRows 13 = .ok (.iload_n 3, 1) := by decide +kernel
theorem dX5_findRows_14 : decode cX5_findRows 14 = .ok (.iload_n 2, 1) := by decide +kernel
theorem dX5_findRows_15 : decode cX5_findRows 15 = .ok (.if_icmp .ge 57, 3) := by decide +kernel
theorem dX5_findRows_18 : decode cX5_findRows 18 = .ok (.aload_n 0, 1) := by decide +kernel
theorem dX5_findRows_19 : decode cX5_findRows 19 = .ok (.invokevirtual 259, 3) := by decide +kernel
theorem dX5_findRows_22 : decode cX5_findRows 22 = .ok (.aload_n 0, 1) := by decide +kernel
theorem dX5_findRows_23 : decode cX5_findRows 23 = .ok (.getfield 31, 3) := by decide +kernel
theorem dX5_findRows_26 : decode cX5_findRows 26 = .ok (.iconst 3, 1) := by decide +kernel
theorem dX5_findRows_27 : decode cX5_findRows 27 = .ok (.iload_n 3, 1) := by decide +kernel
theorem dX5_findRows_28 : decode cX5_findRows 28 = .ok (.imul, 1) := by decide +kernel
theorem dX5_findRows_29 : decode cX5_findRows 29 = .ok (.aload_n 0, 1) := by decide +kernel
theorem dX5_findRows_30 : decode cX5_findRows 30 = .ok (.iload_n 1, 1) := by decide +kernel
theorem dX5_findRows_31 : decode cX5_findRows 31 = .ok (.iconst 3, 1) := by decide +kernel
theorem dX5_findRows_32 : decode cX5_findRows 32 = .ok (.invokevirtual 210, 3) := by decide +kernel
theorem dX5_findRows_35 : decode cX5_findRows 35 = .ok (.iastore, 1) := by decide +kernel
theorem dX5_findRows_36 : decode cX5_findRows 36 = .ok (.aload_n 0, 1) := by decide +kernel
theorem dX5_findRows_37 : decode cX5_findRows 37 = .ok (.getfield 31, 3) := by decide +kernel
theorem dX5_findRows_40 : decode cX5_findRows 40 = .ok (.iconst 3, 1) := by decide +kernel
theorem dX5_findRows_41 : decode cX5_findRows 41 = .ok (.iload_n 3, 1) := by decide +kernel
theorem dX5_findRows_42 : decode cX5_findRows 42 = .ok (.imul, 1) := by decide +kernel
theorem dX5_findRows_43 : decode cX5_findRows 43 = .ok (.iconst 1, 1) := by decide +kernel
theorem dX5_findRows_44 : decode cX5_findRows 44 = .ok (.iadd, 1) := by decide +kernel
theorem dX5_findRows_45 : decode cX5_findRows 45 = .ok (.aload_n 0, 1) := by decide +kernel
theorem dX5_findRows_46 : decode cX5_findRows 46 = .ok (.iload_n 1, 1) := by decide +kernel
theorem dX5_findRows_47 : decode cX5_findRows 47 = .ok (.iconst 2, 1) := by decide +kernel
theorem dX5_findRows_48 : decode cX5_findRows 48 = .ok (.invokevirtual 210, 3) := by decide +kernel
theorem dX5_findRows_51 : decode cX5_findRows 51 = .ok (.iastore, 1) := by decide +kernel
theorem dX5_findRows_52 : decode cX5_findRows 52 = .ok (.aload_n 0, 1) := by decide +kernel
theorem dX5_findRows_53 : decode cX5_findRows 53 = .ok (.getfield 31, 3) := by decide +kernel
theorem dX5_findRows_56 : decode cX5_findRows 56 = .ok (.iconst 3, 1) := by decide +kernel
theorem dX5_findRows_57 : decode cX5_findRows 57 = .ok (.iload_n 3, 1) := by decide +kernel
theorem dX5_findRows_58 : decode cX5_findRows 58 = .ok (.imul, 1) := by decide +kernel
theorem dX5_findRows_59 : decode cX5_findRows 59 = .ok (.iconst 2, 1) := by decide +kernel
theorem dX5_findRows_60 : decode cX5_findRows 60 = .ok (.iadd, 1) := by decide +kernel
theorem dX5_findRows_61 : decode cX5_findRows 61 = .ok (.aload_n 0, 1) := by decide +kernel
theorem dX5_findRows_62 : decode cX5_findRows 62 = .ok (.invokevirtual 252, 3) := by decide +kernel
theorem dX5_findRows_65 : decode cX5_findRows 65 = .ok (.iastore, 1) := by decide +kernel
theorem dX5_findRows_66 : decode cX5_findRows 66 = .ok (.iinc 3 1, 3) := by decide +kernel
theorem dX5_findRows_69 : decode cX5_findRows 69 = .ok (.goto (-56), 3) := by decide +kernel
theorem dX5_findRows_72 : decode cX5_findRows 72 = .ok (.aload_n 0, 1) := by decide +kernel
theorem dX5_findRows_73 : decode cX5_findRows 73 = .ok (.getfield 19, 3) := by decide +kernel
theorem dX5_findRows_76 : decode cX5_findRows 76 = .ok (.aload_n 0, 1) := by decide +kernel
theorem dX5_findRows_77 : decode cX5_findRows 77 = .ok (.getfield 7, 3) := by decide +kernel
theorem dX5_findRows_80 : decode cX5_findRows 80 = .ok (.invokestatic 186, 3) := by decide +kernel
theorem dX5_findRows_83 : decode cX5_findRows 83 = .ok (.return_, 1) := by decide +kernel
set_option maxRecDepth 20000 in
theorem ggX5_prove_X5_isOne : GoodIn wsX5_prove wsX5_isOne := goodIn_r _ [8, 9, 10, 11, 7, 12, 90, 91, 92, 93, 94, 95, 96, 97, 98, 99, 100, 101, 102, 103, 104, 105, 106, 107, 108, 109, 110, 111, 112, 113, 114, 115, 116, 117, 118, 119] (by decide +kernel) (by decide +kernel)
set_option maxRecDepth 20000 in
theorem gX5_prove_X5_isOne : GoodIn wsX5_prove (wsV RX5 207 RX5 yX5_isOne wsX5_isOne) := goodIn_app (goodIn_of _ (by decide +kernel)) ggX5_prove_X5_isOne
set_option maxRecDepth 20000 in
theorem ggX5_prove_X5_in : GoodIn wsX5_prove wsX5_in := goodIn_r _ [12] (by decide +kernel) (by decide +kernel)
set_option maxRecDepth 20000 in
theorem gX5_prove_X5_in : GoodIn wsX5_prove (va_wsS RX5 60 yX5_in wsX5_in) := goodIn_app (goodIn_of _ (by decide +kernel)) ggX5_prove_X5_in
set_option maxRecDepth 20000 in
theorem ggX5_prove_X5_findRows : GoodIn wsX5_prove wsX5_findRows := goodIn_r _ [16, 9, 17, 3, 18, 19, 7, 20, 21, 22, 23, 24, 25, 26, 27, 28, 29, 30, 31, 32, 33, 34, 35, 36, 37, 38, 39, 40, 41, 42, 43, 44, 45, 46, 47, 48, 49, 50, 51, 52, 53, 54, 55, 56, 57, 58, 59, 60, 61, 62, 63, 64, 65, 66, 67, 68, 69, 70, 71, 72, 73, 74, 75, 76, 77, 78, 79, 80, 81, 82, 83, 84, 85, 86, 87, 88, 89, 90, 91, 92, 93, 94, 95, 96, 97, 98, 99, 100, 101, 102, 103, 104, 105, 106, 107, 108, 109, 110, 111, 112, 113, 114, 115, 116, 117, 118, 119] (by decide +kernel) (by decide +kernel)
set_option maxRecDepth 20000 in
theorem gX5_prove_X5_findRows : GoodIn wsX5_prove (wsV RX5 313 RX5 yX5_findRows wsX5_findRows) := goodIn_app (goodIn_of _ (by decide +kernel)) ggX5_prove_X5_findRows
theorem dX5_prove_0 : decode cX5_prove 0 = .ok (.aload_n 0, 1) := by decide +kernel
theorem dX5_prove_1 : decode cX5_prove 1 = .ok (.iload_n 1, 1) := by decide +kernel
theorem dX5_prove_2 : decode cX5_prove 2 = .ok (.invokevirtual 207, 3) := by decide +kernel
theorem dX5_prove_5 : decode cX5_prove 5 = .ok (.ifCond .eq 13, 3) := by decide +kernel
theorem dX5_prove_8 : decode cX5_prove 8 = .ok (.iload_n 2, 1) := by decide +kernel
theorem dX5_prove_9 : decode cX5_prove 9 = .ok (.iconst 1, 1) := by decide +kernel
theorem dX5_prove_10 : decode cX5_prove 10 = .ok (.bipush 10, 2) := by decide +kernel
theorem dX5_prove_12 : decode cX5_prove 12 = .ok (.invokestatic 60, 3) := by decide +kernel
theorem dX5_prove_15 : decode cX5_prove 15 = .ok (.ifCond .ne 5, 3) := by decide +kernel
theorem dX5_prove_18 : decode cX5_prove 18 = .ok (.iconst (-1), 1) := by decide +kernel
theorem dX5_prove_19 : decode cX5_prove 19 = .ok (.ireturn, 1) := by decide +kernel
theorem dX5_prove_20 : decode cX5_prove 20 = .ok (.aload_n 0, 1) := by decide +kernel
theorem dX5_prove_21 : decode cX5_prove 21 = .ok (.iload_n 1, 1) := by decide +kernel
theorem dX5_prove_22 : decode cX5_prove 22 = .ok (.iload_n 2, 1) := by decide +kernel
theorem dX5_prove_23 : decode cX5_prove 23 = .ok (.invokevirtual 313, 3) := by decide +kernel
theorem dX5_prove_26 : decode cX5_prove 26 = .ok (.aload_n 0, 1) := by decide +kernel
theorem dX5_prove_27 : decode cX5_prove 27 = .ok (.iload_n 2, 1) := by decide +kernel
theorem dX5_prove_28 : decode cX5_prove 28 = .ok (.putfield 190, 3) := by decide +kernel
theorem dX5_prove_31 : decode cX5_prove 31 = .ok (.iconst 0, 1) := by decide +kernel
theorem dX5_prove_32 : decode cX5_prove 32 = .ok (.istore_n 3, 1) := by decide +kernel
theorem dX5_prove_33 : decode cX5_prove 33 = .ok (.iload_n 3, 1) := by decide +kernel
theorem dX5_prove_34 : decode cX5_prove 34 = .ok (.iconst 3, 1) := by decide +kernel
theorem dX5_prove_35 : decode cX5_prove 35 = .ok (.iload_n 2, 1) := by decide +kernel
theorem dX5_prove_36 : decode cX5_prove 36 = .ok (.imul, 1) := by decide +kernel
theorem dX5_prove_37 : decode cX5_prove 37 = .ok (.if_icmp .ge 21, 3) := by decide +kernel
theorem dX5_prove_40 : decode cX5_prove 40 = .ok (.aload_n 0, 1) := by decide +kernel
theorem dX5_prove_41 : decode cX5_prove 41 = .ok (.getfield 28, 3) := by decide +kernel
theorem dX5_prove_44 : decode cX5_prove 44 = .ok (.iload_n 3, 1) := by decide +kernel
theorem dX5_prove_45 : decode cX5_prove 45 = .ok (.aload_n 0, 1) := by decide +kernel
theorem dX5_prove_46 : decode cX5_prove 46 = .ok (.getfield 31, 3) := by decide +kernel
theorem dX5_prove_49 : decode cX5_prove 49 = .ok (.iload_n 3, 1) := by decide +kernel
theorem dX5_prove_50 : decode cX5_prove 50 = .ok (.iaload, 1) := by decide +kernel
theorem dX5_prove_51 : decode cX5_prove 51 = .ok (.iastore, 1) := by decide +kernel
theorem dX5_prove_52 : decode cX5_prove 52 = .ok (.iinc 3 1, 3) := by decide +kernel
theorem dX5_prove_55 : decode cX5_prove 55 = .ok (.goto (-22), 3) := by decide +kernel
theorem dX5_prove_58 : decode cX5_prove 58 = .ok (.iload_n 2, 1) := by decide +kernel
theorem dX5_prove_59 : decode cX5_prove 59 = .ok (.ireturn, 1) := by decide +kernel
set_option maxRecDepth 20000 in
theorem ggX5_isRow_X5_in : GoodIn wsX5_isRow wsX5_in := goodIn_r _ [5] (by decide +kernel) (by decide +kernel)
set_option maxRecDepth 20000 in
theorem gX5_isRow_X5_in : GoodIn wsX5_isRow (va_wsS RX5 60 yX5_in wsX5_in) := goodIn_app (goodIn_of _ (by decide +kernel)) ggX5_isRow_X5_in
theorem dX5_isRow_0 : decode cX5_isRow 0 = .ok (.iload_n 1, 1) := by decide +kernel
theorem dX5_isRow_1 : decode cX5_isRow 1 = .ok (.iconst 0, 1) := by decide +kernel
theorem dX5_isRow_2 : decode cX5_isRow 2 = .ok (.aload_n 0, 1) := by decide +kernel
theorem dX5_isRow_3 : decode cX5_isRow 3 = .ok (.getfield 190, 3) := by decide +kernel
theorem dX5_isRow_6 : decode cX5_isRow 6 = .ok (.iconst 1, 1) := by decide +kernel
theorem dX5_isRow_7 : decode cX5_isRow 7 = .ok (.isub, 1) := by decide +kernel
theorem dX5_isRow_8 : decode cX5_isRow 8 = .ok (.invokestatic 60, 3) := by decide +kernel
theorem dX5_isRow_11 : decode cX5_isRow 11 = .ok (.ifCond .eq 16, 3) := by decide +kernel
theorem dX5_isRow_14 : decode cX5_isRow 14 = .ok (.iload_n 2, 1) := by decide +kernel
theorem dX5_isRow_15 : decode cX5_isRow 15 = .ok (.iconst 0, 1) := by decide +kernel
theorem dX5_isRow_16 : decode cX5_isRow 16 = .ok (.iconst 2, 1) := by decide +kernel
theorem dX5_isRow_17 : decode cX5_isRow 17 = .ok (.invokestatic 60, 3) := by decide +kernel
theorem dX5_isRow_20 : decode cX5_isRow 20 = .ok (.ifCond .eq 7, 3) := by decide +kernel
theorem dX5_isRow_23 : decode cX5_isRow 23 = .ok (.iconst 1, 1) := by decide +kernel
theorem dX5_isRow_24 : decode cX5_isRow 24 = .ok (.goto 4, 3) := by decide +kernel
theorem dX5_isRow_27 : decode cX5_isRow 27 = .ok (.iconst 0, 1) := by decide +kernel
theorem dX5_isRow_28 : decode cX5_isRow 28 = .ok (.ireturn, 1) := by decide +kernel
set_option maxRecDepth 20000 in
theorem ggX5_row_X5_isRow : GoodIn wsX5_row wsX5_isRow := goodIn_r _ [6, 7, 8, 9, 5, 10, 11, 12, 13, 14, 15, 16, 17, 18, 19, 20, 21, 22, 23, 24, 25, 26, 27, 28, 29, 30, 31, 32, 33, 34, 35, 36, 37, 38, 39, 40] (by decide +kernel) (by decide +kernel)
set_option maxRecDepth 20000 in
theorem gX5_row_X5_isRow : GoodIn wsX5_row (wsV RX5 317 RX5 yX5_isRow wsX5_isRow) := goodIn_app (goodIn_of _ (by decide +kernel)) ggX5_row_X5_isRow
theorem dX5_row_0 : decode cX5_row 0 = .ok (.aload_n 0, 1) := by decide +kernel
theorem dX5_row_1 : decode cX5_row 1 = .ok (.iload_n 1, 1) := by decide +kernel
theorem dX5_row_2 : decode cX5_row 2 = .ok (.iload_n 2, 1) := by decide +kernel
theorem dX5_row_3 : decode cX5_row 3 = .ok (.invokevirtual 317, 3) := by decide +kernel
theorem dX5_row_6 : decode cX5_row 6 = .ok (.ifCond .eq 16, 3) := by decide +kernel
theorem dX5_row_9 : decode cX5_row 9 = .ok (.aload_n 0, 1) := by decide +kernel
theorem dX5_row_10 : decode cX5_row 10 = .ok (.getfield 28, 3) := by decide +kernel
theorem dX5_row_13 : decode cX5_row 13 = .ok (.iconst 3, 1) := by decide +kernel
theorem dX5_row_14 : decode cX5_row 14 = .ok (.iload_n 1, 1) := by decide +kernel
theorem dX5_row_15 : decode cX5_row 15 = .ok (.imul, 1) := by decide +kernel
theorem dX5_row_16 : decode cX5_row 16 = .ok (.iload_n 2, 1) := by decide +kernel
theorem dX5_row_17 : decode cX5_row 17 = .ok (.iadd, 1) := by decide +kernel
theorem dX5_row_18 : decode cX5_row 18 = .ok (.iaload, 1) := by decide +kernel
theorem dX5_row_19 : decode cX5_row 19 = .ok (.goto 5, 3) := by decide +kernel
theorem dX5_row_22 : decode cX5_row 22 = .ok (.bipush (-9), 2) := by decide +kernel
theorem dX5_row_24 : decode cX5_row 24 = .ok (.ireturn, 1) := by decide +kernel
set_option maxRecDepth 20000 in
theorem ggX5_alterRow_X5_isRow : GoodIn wsX5_alterRow wsX5_isRow := goodIn_r _ [6, 7, 8, 9, 5, 10, 11, 12, 13, 14, 15, 16, 17, 18, 19, 20, 21, 22, 23, 24, 25, 26, 27, 28, 29, 30, 31, 32, 33, 34, 35, 36, 37, 38, 39, 40] (by decide +kernel) (by decide +kernel)
set_option maxRecDepth 20000 in
theorem gX5_alterRow_X5_isRow : GoodIn wsX5_alterRow (wsV RX5 317 RX5 yX5_isRow wsX5_isRow) := goodIn_app (goodIn_of _ (by decide +kernel)) ggX5_alterRow_X5_isRow
theorem dX5_alterRow_0 : decode cX5_alterRow 0 = .ok (.aload_n 0, 1) := by decide +kernel
theorem dX5_alterRow_1 : decode cX5_alterRow 1 = .ok (.iload_n 1, 1) := by decide +kernel
theorem dX5_alterRow_2 : decode cX5_alterRow 2 = .ok (.iload_n 2, 1) := by decide +kernel
theorem dX5_alterRow_3 : decode cX5_alterRow 3 = .ok (.invokevirtual 317, 3) := by decide +kernel
theorem dX5_alterRow_6 : decode cX5_alterRow 6 = .ok (.ifCond .ne 6, 3) := by decide +kernel
theorem dX5_alterRow_9 : decode cX5_alterRow 9 = .ok (.bipush (-9), 2) := by decide +kernel
theorem dX5_alterRow_11 : decode cX5_alterRow 11 = .ok (.ireturn, 1) := by decide +kernel
theorem dX5_alterRow_12 : decode cX5_alterRow 12 = .ok (.aload_n 0, 1) := by decide +kernel
theorem dX5_alterRow_13 : decode cX5_alterRow 13 = .ok (.getfield 28, 3) := by decide +kernel
theorem dX5_alterRow_16 : decode cX5_alterRow 16 = .ok (.iconst 3, 1) := by decide +kernel
theorem dX5_alterRow_17 : decode cX5_alterRow 17 = .ok (.iload_n 1, 1) := by decide +kernel
theorem dX5_alterRow_18 : decode cX5_alterRow 18 = .ok (.imul, 1) := by decide +kernel
theorem dX5_alterRow_19 : decode cX5_alterRow 19 = .ok (.iload_n 2, 1) := by decide +kernel
theorem dX5_alterRow_20 : decode cX5_alterRow 20 = .ok (.iadd, 1) := by decide +kernel
theorem dX5_alterRow_21 : decode cX5_alterRow 21 = .ok (.iaload, 1) := by decide +kernel
theorem dX5_alterRow_22 : decode cX5_alterRow 22 = .ok (.istore 4, 2) := by decide +kernel
theorem dX5_alterRow_24 : decode cX5_alterRow 24 = .ok (.aload_n 0, 1) := by decide +kernel
theorem dX5_alterRow_25 : decode cX5_alterRow 25 = .ok (.getfield 28, 3) := by decide +kernel
theorem dX5_alterRow_28 : decode cX5_alterRow 28 = .ok (.iconst 3, 1) := by decide +kernel
theorem dX5_alterRow_29 : decode cX5_alterRow 29 = .ok (.iload_n 1, 1) := by decide +kernel
theorem dX5_alterRow_30 : decode cX5_alterRow 30 = .ok (.imul, 1) := by decide +kernel
theorem dX5_alterRow_31 : decode cX5_alterRow 31 = .ok (.iload_n 2, 1) := by decide +kernel
theorem dX5_alterRow_32 : decode cX5_alterRow 32 = .ok (.iadd, 1) := by decide +kernel
theorem dX5_alterRow_33 : decode cX5_alterRow 33 = .ok (.iload_n 3, 1) := by decide +kernel
theorem dX5_alterRow_34 : decode cX5_alterRow 34 = .ok (.iastore, 1) := by decide +kernel
theorem dX5_alterRow_35 : decode cX5_alterRow 35 = .ok (.iload 4, 2) := by decide +kernel
theorem dX5_alterRow_37 : decode cX5_alterRow 37 = .ok (.ireturn, 1) := by decide +kernel
set_option maxRecDepth 20000 in
theorem ggX5_judge_X5_isOne : GoodIn wsX5_judge wsX5_isOne := goodIn_r _ [8, 9, 10, 11, 7, 12, 90, 91, 92, 93, 94, 95, 96, 97, 98, 99, 100, 101, 102, 103, 104, 105, 106, 107, 108, 109, 110, 111, 112, 113, 114, 115, 116, 117, 118, 119] (by decide +kernel) (by decide +kernel)
set_option maxRecDepth 20000 in
theorem gX5_judge_X5_isOne : GoodIn wsX5_judge (wsV RX5 207 RX5 yX5_isOne wsX5_isOne) := goodIn_app (goodIn_of _ (by decide +kernel)) ggX5_judge_X5_isOne
set_option maxRecDepth 20000 in
theorem ggX5_judge_X5_findRows : GoodIn wsX5_judge wsX5_findRows := goodIn_r _ [16, 9, 17, 3, 18, 19, 7, 20, 21, 22, 23, 24, 25, 26, 27, 28, 29, 30, 31, 32, 33, 34, 35, 36, 37, 38, 39, 40, 41, 42, 43, 44, 45, 46, 47, 48, 49, 50, 51, 52, 53, 54, 55, 56, 57, 58, 59, 60, 61, 62, 63, 64, 65, 66, 67, 68, 69, 70, 71, 72, 73, 74, 75, 76, 77, 78, 79, 80, 81, 82, 83, 84, 85, 86, 87, 88, 89, 90, 91, 92, 93, 94, 95, 96, 97, 98, 99, 100, 101, 102, 103, 104, 105, 106, 107, 108, 109, 110, 111, 112, 113, 114, 115, 116, 117, 118, 119] (by decide +kernel) (by decide +kernel)
set_option maxRecDepth 20000 in
theorem gX5_judge_X5_findRows : GoodIn wsX5_judge (wsV RX5 313 RX5 yX5_findRows wsX5_findRows) := goodIn_app (goodIn_of _ (by decide +kernel)) ggX5_judge_X5_findRows
theorem dX5_judge_0 : decode cX5_judge 0 = .ok (.aload_n 0, 1) := by decide +kernel
theorem dX5_judge_1 : decode cX5_judge 1 = .ok (.iload_n 1, 1) := by decide +kernel
theorem dX5_judge_2 : decode cX5_judge 2 = .ok (.invokevirtual 207, 3) := by decide +kernel
theorem dX5_judge_5 : decode cX5_judge 5 = .ok (.ifCond .ne 5, 3) := by decide +kernel
theorem dX5_judge_8 : decode cX5_judge 8 = .ok (.iconst (-1), 1) := by decide +kernel
theorem dX5_judge_9 : decode cX5_judge 9 = .ok (.ireturn, 1) := by decide +kernel
theorem dX5_judge_10 : decode cX5_judge 10 = .ok (.aload_n 0, 1) := by decide +kernel
theorem dX5_judge_11 : decode cX5_judge 11 = .ok (.iload_n 1, 1) := by decide +kernel
theorem dX5_judge_12 : decode cX5_judge 12 = .ok (.aload_n 0, 1) := by decide +kernel
theorem dX5_judge_13 : decode cX5_judge 13 = .ok (.getfield 190, 3) := by decide +kernel
theorem dX5_judge_16 : decode cX5_judge 16 = .ok (.invokevirtual 313, 3) := by decide +kernel
theorem dX5_judge_19 : decode cX5_judge 19 = .ok (.iconst 0, 1) := by decide +kernel
theorem dX5_judge_20 : decode cX5_judge 20 = .ok (.istore_n 2, 1) := by decide +kernel
theorem dX5_judge_21 : decode cX5_judge 21 = .ok (.iload_n 2, 1) := by decide +kernel
theorem dX5_judge_22 : decode cX5_judge 22 = .ok (.iconst 3, 1) := by decide +kernel
theorem dX5_judge_23 : decode cX5_judge 23 = .ok (.aload_n 0, 1) := by decide +kernel
theorem dX5_judge_24 : decode cX5_judge 24 = .ok (.getfield 190, 3) := by decide +kernel
theorem dX5_judge_27 : decode cX5_judge 27 = .ok (.imul, 1) := by decide +kernel
theorem dX5_judge_28 : decode cX5_judge 28 = .ok (.if_icmp .ge 30, 3) := by decide +kernel
theorem dX5_judge_31 : decode cX5_judge 31 = .ok (.aload_n 0, 1) := by decide +kernel
theorem dX5_judge_32 : decode cX5_judge 32 = .ok (.getfield 28, 3) := by decide +kernel
theorem dX5_judge_35 : decode cX5_judge 35 = .ok (.iload_n 2, 1) := by decide +kernel
theorem dX5_judge_36 : decode cX5_judge 36 = .ok (.iaload, 1) := by decide +kernel
theorem dX5_judge_37 : decode cX5_judge 37 = .ok (.aload_n 0, 1) := by decide +kernel
theorem dX5_judge_38 : decode cX5_judge 38 = .ok (.getfield 31, 3) := by decide +kernel
theorem dX5_judge_41 : decode cX5_judge 41 = .ok (.iload_n 2, 1) := by decide +kernel
theorem dX5_judge_42 : decode cX5_judge 42 = .ok (.iaload, 1) := by decide +kernel
theorem dX5_judge_43 : decode cX5_judge 43 = .ok (.if_icmp .eq 9, 3) := by decide +kernel
theorem dX5_judge_46 : decode cX5_judge 46 = .ok (.iload_n 2, 1) := by decide +kernel
theorem dX5_judge_47 : decode cX5_judge 47 = .ok (.iconst 3, 1) := by decide +kernel
theorem dX5_judge_48 : decode cX5_judge 48 = .ok (.idiv, 1) := by decide +kernel
theorem dX5_judge_49 : decode cX5_judge 49 = .ok (.iconst 1, 1) := by decide +kernel
theorem dX5_judge_50 : decode cX5_judge 50 = .ok (.iadd, 1) := by decide +kernel
theorem dX5_judge_51 : decode cX5_judge 51 = .ok (.ireturn, 1) := by decide +kernel
theorem dX5_judge_52 : decode cX5_judge 52 = .ok (.iinc 2 1, 3) := by decide +kernel
theorem dX5_judge_55 : decode cX5_judge 55 = .ok (.goto (-34), 3) := by decide +kernel
theorem dX5_judge_58 : decode cX5_judge 58 = .ok (.iconst 0, 1) := by decide +kernel
theorem dX5_judge_59 : decode cX5_judge 59 = .ok (.ireturn, 1) := by decide +kernel
set_option maxRecDepth 20000 in
theorem ggX5_minds_X5_isShelf : GoodIn wsX5_minds wsX5_isShelf := goodIn_r _ [7, 8, 9, 6, 10] (by decide +kernel) (by decide +kernel)
set_option maxRecDepth 20000 in
theorem gX5_minds_X5_isShelf : GoodIn wsX5_minds (va_wsS RX5 297 yX5_isShelf wsX5_isShelf) := goodIn_app (goodIn_of _ (by decide +kernel)) ggX5_minds_X5_isShelf
set_option maxRecDepth 20000 in
theorem ggX5_minds_X5_isOne : GoodIn wsX5_minds wsX5_isOne := goodIn_r _ [14, 1, 8, 9, 6, 10, 27, 28, 29, 30, 31, 32, 33, 34, 35, 36, 37, 38, 39, 40, 41, 42, 43, 44, 45, 46, 47, 48, 49, 50, 51, 52, 53, 54, 55, 56] (by decide +kernel) (by decide +kernel)
set_option maxRecDepth 20000 in
theorem gX5_minds_X5_isOne : GoodIn wsX5_minds (wsV RX5 207 RX5 yX5_isOne wsX5_isOne) := goodIn_app (goodIn_of _ (by decide +kernel)) ggX5_minds_X5_isOne
set_option maxRecDepth 20000 in
theorem ggX5_minds_X5_in : GoodIn wsX5_minds wsX5_in := goodIn_r _ [10] (by decide +kernel) (by decide +kernel)
set_option maxRecDepth 20000 in
theorem gX5_minds_X5_in : GoodIn wsX5_minds (va_wsS RX5 60 yX5_in wsX5_in) := goodIn_app (goodIn_of _ (by decide +kernel)) ggX5_minds_X5_in
set_option maxRecDepth 20000 in
theorem ggX5_minds_X5_lacksSort : GoodIn wsX5_minds wsX5_lacksSort := goodIn_r _ [18, 19, 27, 28, 29, 30, 31, 32, 33, 34, 35, 36, 37, 38, 39, 40, 41, 42, 43, 44, 45, 46, 47, 48, 49, 50, 51, 52, 53, 54, 55, 56] (by decide +kernel) (by decide +kernel)
set_option maxRecDepth 20000 in
theorem gX5_minds_X5_lacksSort : GoodIn wsX5_minds (wsV RX5 320 RX5 yX5_lacksSort wsX5_lacksSort) := goodIn_app (goodIn_of _ (by decide +kernel)) ggX5_minds_X5_lacksSort
set_option maxRecDepth 20000 in
theorem ggX5_minds_X5_held : GoodIn wsX5_minds wsX5_held := goodIn_r _ [22] (by decide +kernel) (by decide +kernel)
set_option maxRecDepth 20000 in
theorem gX5_minds_X5_held : GoodIn wsX5_minds (va_wsS RX5 242 yX5_held wsX5_held) := goodIn_app (goodIn_of _ (by decide +kernel)) ggX5_minds_X5_held
set_option maxRecDepth 20000 in
theorem ggX5_minds_X5_sets : GoodIn wsX5_minds wsX5_sets := goodIn_r _ [26, 1, 27, 28, 29, 30, 31, 32, 33, 34, 35, 36, 37, 38, 39, 40, 41, 42, 43, 44, 45, 46, 47, 48, 49, 50, 51, 52, 53, 54, 55, 56] (by decide +kernel) (by decide +kernel)
set_option maxRecDepth 20000 in
theorem gX5_minds_X5_sets : GoodIn wsX5_minds (wsV RX5 203 RX5 yX5_sets wsX5_sets) := goodIn_app (goodIn_of _ (by decide +kernel)) ggX5_minds_X5_sets
theorem dX5_minds_0 : decode cX5_minds 0 = .ok (.iload_n 1, 1) := by decide +kernel
theorem dX5_minds_1 : decode cX5_minds 1 = .ok (.invokestatic 297, 3) := by decide +kernel
theorem dX5_minds_4 : decode cX5_minds 4 = .ok (.ifCond .eq 36, 3) := by decide +kernel
theorem dX5_minds_7 : decode cX5_minds 7 = .ok (.aload_n 0, 1) := by decide +kernel
theorem dX5_minds_8 : decode cX5_minds 8 = .ok (.iload_n 3, 1) := by decide +kernel
theorem dX5_minds_9 : decode cX5_minds 9 = .ok (.invokevirtual 207, 3) := by decide +kernel
theorem dX5_minds_12 : decode cX5_minds 12 = .ok (.ifCond .eq 28, 3) := by decide +kernel
theorem dX5_minds_15 : decode cX5_minds 15 = .ok (.iload 4, 2) := by decide +kernel
theorem dX5_minds_17 : decode cX5_minds 17 = .ok (.iconst 0, 1) := by decide +kernel
theorem dX5_minds_18 : decode cX5_minds 18 = .ok (.bipush 8, 2) := by decide +kernel
theorem dX5_minds_20 : decode cX5_minds 20 = .ok (.invokestatic 60, 3) := by decide +kernel
theorem dX5_minds_23 : decode cX5_minds 23 = .ok (.ifCond .eq 17, 3) := by decide +kernel
theorem dX5_minds_26 : decode cX5_minds 26 = .ok (.iload 4, 2) := by decide +kernel
theorem dX5_minds_28 : decode cX5_minds 28 = .ok (.aload_n 0, 1) := by decide +kernel
theorem dX5_minds_29 : decode cX5_minds 29 = .ok (.getfield 7, 3) := by decide +kernel
theorem dX5_minds_32 : decode cX5_minds 32 = .ok (.bipush 6, 2) := by decide +kernel
theorem dX5_minds_34 : decode cX5_minds 34 = .ok (.iaload, 1) := by decide +kernel
theorem dX5_minds_35 : decode cX5_minds 35 = .ok (.iload_n 3, 1) := by decide +kernel
theorem dX5_minds_36 : decode cX5_minds 36 = .ok (.isub, 1) := by decide +kernel
theorem dX5_minds_37 : decode cX5_minds 37 = .ok (.if_icmp .le 5, 3) := by decide +kernel
theorem dX5_minds_40 : decode cX5_minds 40 = .ok (.iconst (-1), 1) := by decide +kernel
theorem dX5_minds_41 : decode cX5_minds 41 = .ok (.ireturn, 1) := by decide +kernel
theorem dX5_minds_42 : decode cX5_minds 42 = .ok (.aload_n 0, 1) := by decide +kernel
theorem dX5_minds_43 : decode cX5_minds 43 = .ok (.iload_n 1, 1) := by decide +kernel
theorem dX5_minds_44 : decode cX5_minds 44 = .ok (.iconst 0, 1) := by decide +kernel
theorem dX5_minds_45 : decode cX5_minds 45 = .ok (.invokevirtual 320, 3) := by decide +kernel
theorem dX5_minds_48 : decode cX5_minds 48 = .ok (.istore 5, 2) := by decide +kernel
theorem dX5_minds_50 : decode cX5_minds 50 = .ok (.iload 5, 2) := by decide +kernel
theorem dX5_minds_52 : decode cX5_minds 52 = .ok (.ifCond .eq 6, 3) := by decide +kernel
theorem dX5_minds_55 : decode cX5_minds 55 = .ok (.iload 5, 2) := by decide +kernel
theorem dX5_minds_57 : decode cX5_minds 57 = .ok (.ireturn, 1) := by decide +kernel
theorem dX5_minds_58 : decode cX5_minds 58 = .ok (.iload_n 2, 1) := by decide +kernel
theorem dX5_minds_59 : decode cX5_minds 59 = .ok (.ifCond .lt 16, 3) := by decide +kernel
theorem dX5_minds_62 : decode cX5_minds 62 = .ok (.iload_n 2, 1) := by decide +kernel
theorem dX5_minds_63 : decode cX5_minds 63 = .ok (.aload_n 0, 1) := by decide +kernel
theorem dX5_minds_64 : decode cX5_minds 64 = .ok (.getfield 37, 3) := by decide +kernel
theorem dX5_minds_67 : decode cX5_minds 67 = .ok (.iload_n 1, 1) := by decide +kernel
theorem dX5_minds_68 : decode cX5_minds 68 = .ok (.iaload, 1) := by decide +kernel
theorem dX5_minds_69 : decode cX5_minds 69 = .ok (.iload 4, 2) := by decide +kernel
theorem dX5_minds_71 : decode cX5_minds 71 = .ok (.isub, 1) := by decide +kernel
theorem dX5_minds_72 : decode cX5_minds 72 = .ok (.if_icmp .le 6, 3) := by decide +kernel
theorem dX5_minds_75 : decode cX5_minds 75 = .ok (.bipush (-12), 2) := by decide +kernel
theorem dX5_minds_77 : decode cX5_minds 77 = .ok (.ireturn, 1) := by decide +kernel
theorem dX5_minds_78 : decode cX5_minds 78 = .ok (.iconst 0, 1) := by decide +kernel
theorem dX5_minds_79 : decode cX5_minds 79 = .ok (.istore 6, 2) := by decide +kernel
theorem dX5_minds_81 : decode cX5_minds 81 = .ok (.iload 6, 2) := by decide +kernel
theorem dX5_minds_83 : decode cX5_minds 83 = .ok (.iload 4, 2) := by decide +kernel
theorem dX5_minds_85 : decode cX5_minds 85 = .ok (.if_icmp .ge 39, 3) := by decide +kernel
theorem dX5_minds_88 : decode cX5_minds 88 = .ok (.aload_n 0, 1) := by decide +kernel
theorem dX5_minds_89 : decode cX5_minds 89 = .ok (.iload_n 3, 1) := by decide +kernel
theorem dX5_minds_90 : decode cX5_minds 90 = .ok (.iload 6, 2) := by decide +kernel
theorem dX5_minds_92 : decode cX5_minds 92 = .ok (.iadd, 1) := by decide +kernel
theorem dX5_minds_93 : decode cX5_minds 93 = .ok (.iconst 2, 1) := by decide +kernel
theorem dX5_minds_94 : decode cX5_minds 94 = .ok (.aload_n 0, 1) := by decide +kernel
theorem dX5_minds_95 : decode cX5_minds 95 = .ok (.getfield 40, 3) := by decide +kernel
theorem dX5_minds_98 : decode cX5_minds 98 = .ok (.bipush 40, 2) := by decide +kernel
theorem dX5_minds_100 : decode cX5_minds 100 = .ok (.iload_n 1, 1) := by decide +kernel
theorem dX5_minds_101 : decode cX5_minds 101 = .ok (.imul, 1) := by decide +kernel
theorem dX5_minds_102 : decode cX5_minds 102 = .ok (.iload_n 2, 1) := by decide +kernel
theorem dX5_minds_103 : decode cX5_minds 103 = .ok (.iadd, 1) := by decide +kernel
theorem dX5_minds_104 : decode cX5_minds 104 = .ok (.iload 6, 2) := by decide +kernel
theorem dX5_minds_106 : decode cX5_minds 106 = .ok (.iadd, 1) := by decide +kernel
theorem dX5_minds_107 : decode cX5_minds 107 = .ok (.laload, 1) := by decide +kernel
theorem dX5_minds_108 : decode cX5_minds 108 = .ok (.l2i, 1) := by decide +kernel
theorem dX5_minds_109 : decode cX5_minds 109 = .ok (.iconst 0, 1) := by decide +kernel
theorem dX5_minds_110 : decode cX5_minds 110 = .ok (.bipush 99, 2) := by decide +kernel
theorem dX5_minds_112 : decode cX5_minds 112 = .ok (.invokestatic 242, 3) := by decide +kernel
theorem dX5_minds_115 : decode cX5_minds 115 = .ok (.invokevirtual 203, 3) := by decide +kernel
theorem dX5_minds_118 : decode cX5_minds 118 = .ok (.iinc 6 1, 3) := by decide +kernel
theorem dX5_minds_121 : decode cX5_minds 121 = .ok (.goto (-40), 3) := by decide +kernel
theorem dX5_minds_124 : decode cX5_minds 124 = .ok (.iload 4, 2) := by decide +kernel
theorem dX5_minds_126 : decode cX5_minds 126 = .ok (.ireturn, 1) := by decide +kernel
set_option maxRecDepth 20000 in
theorem ggX5_isShelf_X5_in : GoodIn wsX5_isShelf wsX5_in := goodIn_r _ [4] (by decide +kernel) (by decide +kernel)
set_option maxRecDepth 20000 in
theorem gX5_isShelf_X5_in : GoodIn wsX5_isShelf (va_wsS RX5 60 yX5_in wsX5_in) := goodIn_app (goodIn_of _ (by decide +kernel)) ggX5_isShelf_X5_in
theorem dX5_isShelf_0 : decode cX5_isShelf 0 = .ok (.iload_n 0, 1) := by decide +kernel
theorem dX5_isShelf_1 : decode cX5_isShelf 1 = .ok (.iconst 0, 1) := by decide +kernel
theorem dX5_isShelf_2 : decode cX5_isShelf 2 = .ok (.iconst 3, 1) := by decide +kernel
theorem dX5_isShelf_3 : decode cX5_isShelf 3 = .ok (.invokestatic 60, 3) := by decide +kernel
theorem dX5_isShelf_6 : decode cX5_isShelf 6 = .ok (.ireturn, 1) := by decide +kernel
set_option maxRecDepth 20000 in
theorem ggX5_sheet_X5_isShelf : GoodIn wsX5_sheet wsX5_isShelf := goodIn_r _ [7, 8, 9, 6, 10] (by decide +kernel) (by decide +kernel)
set_option maxRecDepth 20000 in
theorem gX5_sheet_X5_isShelf : GoodIn wsX5_sheet (va_wsS RX5 297 yX5_isShelf wsX5_isShelf) := goodIn_app (goodIn_of _ (by decide +kernel)) ggX5_sheet_X5_isShelf
set_option maxRecDepth 20000 in
theorem ggX5_sheet_X5_in : GoodIn wsX5_sheet wsX5_in := goodIn_r _ [10] (by decide +kernel) (by decide +kernel)
set_option maxRecDepth 20000 in
theorem gX5_sheet_X5_in : GoodIn wsX5_sheet (va_wsS RX5 60 yX5_in wsX5_in) := goodIn_app (goodIn_of _ (by decide +kernel)) ggX5_sheet_X5_in
theorem dX5_sheet_0 : decode cX5_sheet 0 = .ok (.iload_n 1, 1) := by decide +kernel
theorem dX5_sheet_1 : decode cX5_sheet 1 = .ok (.invokestatic 297, 3) := by decide +kernel
theorem dX5_sheet_4 : decode cX5_sheet 4 = .ok (.ifCond .eq 22, 3) := by decide +kernel
theorem dX5_sheet_7 : decode cX5_sheet 7 = .ok (.iload_n 2, 1) := by decide +kernel
theorem dX5_sheet_8 : decode cX5_sheet 8 = .ok (.iconst (-1), 1) := by decide +kernel
theorem dX5_sheet_9 : decode cX5_sheet 9 = .ok (.iconst 3, 1) := by decide +kernel
theorem dX5_sheet_10 : decode cX5_sheet 10 = .ok (.invokestatic 60, 3) := by decide +kernel
theorem dX5_sheet_13 : decode cX5_sheet 13 = .ok (.ifCond .eq 13, 3) := by decide +kernel
theorem dX5_sheet_16 : decode cX5_sheet 16 = .ok (.iload_n 2, 1) := by decide +kernel
theorem dX5_sheet_17 : decode cX5_sheet 17 = .ok (.ifCond .lt 11, 3) := by decide +kernel
theorem dX5_sheet_20 : decode cX5_sheet 20 = .ok (.iload_n 3, 1) := by decide +kernel
theorem dX5_sheet_21 : decode cX5_sheet 21 = .ok (.bipush 40, 2) := by decide +kernel
theorem dX5_sheet_23 : decode cX5_sheet 23 = .ok (.if_icmp .le 5, 3) := by decide +kernel
theorem dX5_sheet_26 : decode cX5_sheet 26 = .ok (.iconst (-1), 1) := by decide +kernel
theorem dX5_sheet_27 : decode cX5_sheet 27 = .ok (.ireturn, 1) := by decide +kernel
theorem dX5_sheet_28 : decode cX5_sheet 28 = .ok (.iload_n 2, 1) := by decide +kernel
theorem dX5_sheet_29 : decode cX5_sheet 29 = .ok (.ifCond .lt 10, 3) := by decide +kernel
theorem dX5_sheet_32 : decode cX5_sheet 32 = .ok (.iload_n 3, 1) := by decide +kernel
theorem dX5_sheet_33 : decode cX5_sheet 33 = .ok (.ifCond .ge 6, 3) := by decide +kernel
theorem dX5_sheet_36 : decode cX5_sheet 36 = .ok (.bipush (-14), 2) := by decide +kernel
theorem dX5_sheet_38 : decode cX5_sheet 38 = .ok (.ireturn, 1) := by decide +kernel
theorem dX5_sheet_39 : decode cX5_sheet 39 = .ok (.aload_n 0, 1) := by decide +kernel
theorem dX5_sheet_40 : decode cX5_sheet 40 = .ok (.getfield 34, 3) := by decide +kernel
theorem dX5_sheet_43 : decode cX5_sheet 43 = .ok (.iload_n 1, 1) := by decide +kernel
theorem dX5_sheet_44 : decode cX5_sheet 44 = .ok (.iload_n 2, 1) := by decide +kernel
theorem dX5_sheet_45 : decode cX5_sheet 45 = .ok (.iastore, 1) := by decide +kernel
theorem dX5_sheet_46 : decode cX5_sheet 46 = .ok (.aload_n 0, 1) := by decide +kernel
theorem dX5_sheet_47 : decode cX5_sheet 47 = .ok (.getfield 37, 3) := by decide +kernel
theorem dX5_sheet_50 : decode cX5_sheet 50 = .ok (.iload_n 1, 1) := by decide +kernel
theorem dX5_sheet_51 : decode cX5_sheet 51 = .ok (.iload_n 2, 1) := by decide +kernel
theorem dX5_sheet_52 : decode cX5_sheet 52 = .ok (.ifCond .ge 7, 3) := by decide +kernel
theorem dX5_sheet_55 : decode cX5_sheet 55 = .ok (.iconst 0, 1) := by decide +kernel
theorem dX5_sheet_56 : decode cX5_sheet 56 = .ok (.goto 4, 3) := by decide +kernel
theorem dX5_sheet_59 : decode cX5_sheet 59 = .ok (.iload_n 3, 1) := by decide +kernel
theorem dX5_sheet_60 : decode cX5_sheet 60 = .ok (.iastore, 1) := by decide +kernel
theorem dX5_sheet_61 : decode cX5_sheet 61 = .ok (.iconst 0, 1) := by decide +kernel
theorem dX5_sheet_62 : decode cX5_sheet 62 = .ok (.istore 4, 2) := by decide +kernel
theorem dX5_sheet_64 : decode cX5_sheet 64 = .ok (.iload 4, 2) := by decide +kernel
theorem dX5_sheet_66 : decode cX5_sheet 66 = .ok (.bipush 40, 2) := by decide +kernel
theorem dX5_sheet_68 : decode cX5_sheet 68 = .ok (.if_icmp .ge 22, 3) := by decide +kernel
theorem dX5_sheet_71 : decode cX5_sheet 71 = .ok (.aload_n 0, 1) := by decide +kernel
theorem dX5_sheet_72 : decode cX5_sheet 72 = .ok (.getfield 40, 3) := by decide +kernel
theorem dX5_sheet_75 : decode cX5_sheet 75 = .ok (.bipush 40, 2) := by decide +kernel
theorem dX5_sheet_77 : decode cX5_sheet 77 = .ok (.iload_n 1, 1) := by decide +kernel
theorem dX5_sheet_78 : decode cX5_sheet 78 = .ok (.imul, 1) := by decide +kernel
theorem dX5_sheet_79 : decode cX5_sheet 79 = .ok (.iload 4, 2) := by decide +kernel
theorem dX5_sheet_81 : decode cX5_sheet 81 = .ok (.iadd, 1) := by decide +kernel
theorem dX5_sheet_82 : decode cX5_sheet 82 = .ok (.lconst 0, 1) := by decide +kernel
theorem dX5_sheet_83 : decode cX5_sheet 83 = .ok (.lastore, 1) := by decide +kernel
theorem dX5_sheet_84 : decode cX5_sheet 84 = .ok (.iinc 4 1, 3) := by decide +kernel
theorem dX5_sheet_87 : decode cX5_sheet 87 = .ok (.goto (-23), 3) := by decide +kernel
theorem dX5_sheet_90 : decode cX5_sheet 90 = .ok (.iconst 1, 1) := by decide +kernel
theorem dX5_sheet_91 : decode cX5_sheet 91 = .ok (.ireturn, 1) := by decide +kernel
set_option maxRecDepth 20000 in
theorem ggX5_put_X5_isShelf : GoodIn wsX5_put wsX5_isShelf := goodIn_r _ [7, 8, 9, 6, 10] (by decide +kernel) (by decide +kernel)
set_option maxRecDepth 20000 in
theorem gX5_put_X5_isShelf : GoodIn wsX5_put (va_wsS RX5 297 yX5_isShelf wsX5_isShelf) := goodIn_app (goodIn_of _ (by decide +kernel)) ggX5_put_X5_isShelf
set_option maxRecDepth 20000 in
theorem ggX5_put_X5_in : GoodIn wsX5_put wsX5_in := goodIn_r _ [10] (by decide +kernel) (by decide +kernel)
set_option maxRecDepth 20000 in
theorem gX5_put_X5_in : GoodIn wsX5_put (va_wsS RX5 60 yX5_in wsX5_in) := goodIn_app (goodIn_of _ (by decide +kernel)) ggX5_put_X5_in
theorem dX5_put_0 : decode cX5_put 0 = .ok (.iload_n 1, 1) := by decide +kernel
theorem dX5_put_1 : decode cX5_put 1 = .ok (.invokestatic 297, 3) := by decide +kernel
theorem dX5_put_4 : decode cX5_put 4 = .ok (.ifCond .ne 5, 3) := by decide +kernel
theorem dX5_put_7 : decode cX5_put 7 = .ok (.iconst (-1), 1) := by decide +kernel
theorem dX5_put_8 : decode cX5_put 8 = .ok (.ireturn, 1) := by decide +kernel
theorem dX5_put_9 : decode cX5_put 9 = .ok (.aload_n 0, 1) := by decide +kernel
theorem dX5_put_10 : decode cX5_put 10 = .ok (.getfield 34, 3) := by decide +kernel
theorem dX5_put_13 : decode cX5_put 13 = .ok (.iload_n 1, 1) := by decide +kernel
theorem dX5_put_14 : decode cX5_put 14 = .ok (.iaload, 1) := by decide +kernel
theorem dX5_put_15 : decode cX5_put 15 = .ok (.ifCond .ge 6, 3) := by decide +kernel
theorem dX5_put_18 : decode cX5_put 18 = .ok (.bipush (-11), 2) := by decide +kernel
theorem dX5_put_20 : decode cX5_put 20 = .ok (.ireturn, 1) := by decide +kernel
theorem dX5_put_21 : decode cX5_put 21 = .ok (.iload_n 2, 1) := by decide +kernel
theorem dX5_put_22 : decode cX5_put 22 = .ok (.iconst 0, 1) := by decide +kernel
theorem dX5_put_23 : decode cX5_put 23 = .ok (.aload_n 0, 1) := by decide +kernel
theorem dX5_put_24 : decode cX5_put 24 = .ok (.getfield 37, 3) := by decide +kernel
theorem dX5_put_27 : decode cX5_put 27 = .ok (.iload_n 1, 1) := by decide +kernel
theorem dX5_put_28 : decode cX5_put 28 = .ok (.iaload, 1) := by decide +kernel
theorem dX5_put_29 : decode cX5_put 29 = .ok (.iconst 1, 1) := by decide +kernel
theorem dX5_put_30 : decode cX5_put 30 = .ok (.isub, 1) := by decide +kernel
theorem dX5_put_31 : decode cX5_put 31 = .ok (.invokestatic 60, 3) := by decide +kernel
theorem dX5_put_34 : decode cX5_put 34 = .ok (.ifCond .ne 6, 3) := by decide +kernel
theorem dX5_put_37 : decode cX5_put 37 = .ok (.bipush (-12), 2) := by decide +kernel
theorem dX5_put_39 : decode cX5_put 39 = .ok (.ireturn, 1) := by decide +kernel
theorem dX5_put_40 : decode cX5_put 40 = .ok (.aload_n 0, 1) := by decide +kernel
theorem dX5_put_41 : decode cX5_put 41 = .ok (.getfield 40, 3) := by decide +kernel
theorem dX5_put_44 : decode cX5_put 44 = .ok (.bipush 40, 2) := by decide +kernel
theorem dX5_put_46 : decode cX5_put 46 = .ok (.iload_n 1, 1) := by decide +kernel
theorem dX5_put_47 : decode cX5_put 47 = .ok (.imul, 1) := by decide +kernel
theorem dX5_put_48 : decode cX5_put 48 = .ok (.iload_n 2, 1) := by decide +kernel
theorem dX5_put_49 : decode cX5_put 49 = .ok (.iadd, 1) := by decide +kernel
theorem dX5_put_50 : decode cX5_put 50 = .ok (.aload_n 0, 1) := by decide +kernel
theorem dX5_put_51 : decode cX5_put 51 = .ok (.getfield 34, 3) := by decide +kernel
theorem dX5_put_54 : decode cX5_put 54 = .ok (.iload_n 1, 1) := by decide +kernel
theorem dX5_put_55 : decode cX5_put 55 = .ok (.iaload, 1) := by decide +kernel
theorem dX5_put_56 : decode cX5_put 56 = .ok (.ifCond .ne 9, 3) := by decide +kernel
theorem dX5_put_59 : decode cX5_put 59 = .ok (.iload_n 3, 1) := by decide +kernel
theorem dX5_put_60 : decode cX5_put 60 = .ok (.i2b, 1) := by decide +kernel
theorem dX5_put_61 : decode cX5_put 61 = .ok (.i2l, 1) := by decide +kernel
theorem dX5_put_62 : decode cX5_put 62 = .ok (.goto 21, 3) := by decide +kernel
theorem dX5_put_65 : decode cX5_put 65 = .ok (.aload_n 0, 1) := by decide +kernel
theorem dX5_put_66 : decode cX5_put 66 = .ok (.getfield 34, 3) := by decide +kernel
theorem dX5_put_69 : decode cX5_put 69 = .ok (.iload_n 1, 1) := by decide +kernel
theorem dX5_put_70 : decode cX5_put 70 = .ok (.iaload, 1) := by decide +kernel
theorem dX5_put_71 : decode cX5_put 71 = .ok (.iconst 1, 1) := by decide +kernel
theorem dX5_put_72 : decode cX5_put 72 = .ok (.if_icmp .ne 9, 3) := by decide +kernel
theorem dX5_put_75 : decode cX5_put 75 = .ok (.iload_n 3, 1) := by decide +kernel
theorem dX5_put_76 : decode cX5_put 76 = .ok (.i2s, 1) := by decide +kernel
theorem dX5_put_77 : decode cX5_put 77 = .ok (.i2l, 1) := by decide +kernel
theorem dX5_put_78 : decode cX5_put 78 = .ok (.goto 5, 3) := by decide +kernel
theorem dX5_put_81 : decode cX5_put 81 = .ok (.iload_n 3, 1) := by decide +kernel
theorem dX5_put_82 : decode cX5_put 82 = .ok (.i2l, 1) := by decide +kernel
theorem dX5_put_83 : decode cX5_put 83 = .ok (.lastore, 1) := by decide +kernel
theorem dX5_put_84 : decode cX5_put 84 = .ok (.iconst 1, 1) := by decide +kernel
theorem dX5_put_85 : decode cX5_put 85 = .ok (.ireturn, 1) := by decide +kernel
theorem dX5_lacksSort_0 : decode cX5_lacksSort 0 = .ok (.aload_n 0, 1) := by decide +kernel
theorem dX5_lacksSort_1 : decode cX5_lacksSort 1 = .ok (.getfield 34, 3) := by decide +kernel
theorem dX5_lacksSort_4 : decode cX5_lacksSort 4 = .ok (.iload_n 1, 1) := by decide +kernel
theorem dX5_lacksSort_5 : decode cX5_lacksSort 5 = .ok (.iaload, 1) := by decide +kernel
theorem dX5_lacksSort_6 : decode cX5_lacksSort 6 = .ok (.ifCond .ge 8, 3) := by decide +kernel
theorem dX5_lacksSort_9 : decode cX5_lacksSort 9 = .ok (.bipush (-11), 2) := by decide +kernel
theorem dX5_lacksSort_11 : decode cX5_lacksSort 11 = .ok (.goto 19, 3) := by decide +kernel
theorem dX5_lacksSort_14 : decode cX5_lacksSort 14 = .ok (.aload_n 0, 1) := by decide +kernel
theorem dX5_lacksSort_15 : decode cX5_lacksSort 15 = .ok (.getfield 34, 3) := by decide +kernel
theorem dX5_lacksSort_18 : decode cX5_lacksSort 18 = .ok (.iload_n 1, 1) := by decide +kernel
theorem dX5_lacksSort_19 : decode cX5_lacksSort 19 = .ok (.iaload, 1) := by decide +kernel
theorem dX5_lacksSort_20 : decode cX5_lacksSort 20 = .ok (.iload_n 2, 1) := by decide +kernel
theorem dX5_lacksSort_21 : decode cX5_lacksSort 21 = .ok (.if_icmp .eq 8, 3) := by decide +kernel
theorem dX5_lacksSort_24 : decode cX5_lacksSort 24 = .ok (.bipush (-13), 2) := by decide +kernel
theorem dX5_lacksSort_26 : decode cX5_lacksSort 26 = .ok (.goto 4, 3) := by decide +kernel
theorem dX5_lacksSort_29 : decode cX5_lacksSort 29 = .ok (.iconst 0, 1) := by decide +kernel
theorem dX5_lacksSort_30 : decode cX5_lacksSort 30 = .ok (.ireturn, 1) := by decide +kernel
set_option maxRecDepth 20000 in
theorem ggX5_item_X5_isShelf : GoodIn wsX5_item wsX5_isShelf := goodIn_r _ [6, 7, 8, 5, 9] (by decide +kernel) (by decide +kernel)
set_option maxRecDepth 20000 in
theorem gX5_item_X5_isShelf : GoodIn wsX5_item (va_wsS RX5 297 yX5_isShelf wsX5_isShelf) := goodIn_app (goodIn_of _ (by decide +kernel)) ggX5_item_X5_isShelf
set_option maxRecDepth 20000 in
theorem ggX5_item_X5_in : GoodIn wsX5_item wsX5_in := goodIn_r _ [9] (by decide +kernel) (by decide +kernel)
set_option maxRecDepth 20000 in
theorem gX5_item_X5_in : GoodIn wsX5_item (va_wsS RX5 60 yX5_in wsX5_in) := goodIn_app (goodIn_of _ (by decide +kernel)) ggX5_item_X5_in
set_option maxRecDepth 20000 in
theorem ggX5_item_X5_lacksSort : GoodIn wsX5_item wsX5_lacksSort := goodIn_r _ [13, 14, 15, 16, 17, 18, 19, 20, 21, 22, 23, 24, 25, 26, 27, 28, 29, 30, 31, 32, 33, 34, 35, 36, 37, 38, 39, 40, 41, 42, 43, 44] (by decide +kernel) (by decide +kernel)
set_option maxRecDepth 20000 in
theorem gX5_item_X5_lacksSort : GoodIn wsX5_item (wsV RX5 320 RX5 yX5_lacksSort wsX5_lacksSort) := goodIn_app (goodIn_of _ (by decide +kernel)) ggX5_item_X5_lacksSort
theorem dX5_item_0 : decode cX5_item 0 = .ok (.iload_n 1, 1) := by decide +kernel
theorem dX5_item_1 : decode cX5_item 1 = .ok (.invokestatic 297, 3) := by decide +kernel
theorem dX5_item_4 : decode cX5_item 4 = .ok (.ifCond .eq 12, 3) := by decide +kernel
theorem dX5_item_7 : decode cX5_item 7 = .ok (.iload_n 2, 1) := by decide +kernel
theorem dX5_item_8 : decode cX5_item 8 = .ok (.iconst 0, 1) := by decide +kernel
theorem dX5_item_9 : decode cX5_item 9 = .ok (.iconst 3, 1) := by decide +kernel
theorem dX5_item_10 : decode cX5_item 10 = .ok (.invokestatic 60, 3) := by decide +kernel
theorem dX5_item_13 : decode cX5_item 13 = .ok (.ifCond .ne 5, 3) := by decide +kernel
theorem dX5_item_16 : decode cX5_item 16 = .ok (.iconst (-1), 1) := by decide +kernel
theorem dX5_item_17 : decode cX5_item 17 = .ok (.ireturn, 1) := by decide +kernel
theorem dX5_item_18 : decode cX5_item 18 = .ok (.aload_n 0, 1) := by decide +kernel
theorem dX5_item_19 : decode cX5_item 19 = .ok (.iload_n 1, 1) := by decide +kernel
theorem dX5_item_20 : decode cX5_item 20 = .ok (.iload_n 2, 1) := by decide +kernel
theorem dX5_item_21 : decode cX5_item 21 = .ok (.invokevirtual 320, 3) := by decide +kernel
theorem dX5_item_24 : decode cX5_item 24 = .ok (.istore 4, 2) := by decide +kernel
theorem dX5_item_26 : decode cX5_item 26 = .ok (.iload 4, 2) := by decide +kernel
theorem dX5_item_28 : decode cX5_item 28 = .ok (.ifCond .eq 6, 3) := by decide +kernel
theorem dX5_item_31 : decode cX5_item 31 = .ok (.iload 4, 2) := by decide +kernel
theorem dX5_item_33 : decode cX5_item 33 = .ok (.ireturn, 1) := by decide +kernel
theorem dX5_item_34 : decode cX5_item 34 = .ok (.iload_n 3, 1) := by decide +kernel
theorem dX5_item_35 : decode cX5_item 35 = .ok (.iconst 0, 1) := by decide +kernel
theorem dX5_item_36 : decode cX5_item 36 = .ok (.aload_n 0, 1) := by decide +kernel
theorem dX5_item_37 : decode cX5_item 37 = .ok (.getfield 37, 3) := by decide +kernel
theorem dX5_item_40 : decode cX5_item 40 = .ok (.iload_n 1, 1) := by decide +kernel
theorem dX5_item_41 : decode cX5_item 41 = .ok (.iaload, 1) := by decide +kernel
theorem dX5_item_42 : decode cX5_item 42 = .ok (.iconst 1, 1) := by decide +kernel
theorem dX5_item_43 : decode cX5_item 43 = .ok (.isub, 1) := by decide +kernel
theorem dX5_item_44 : decode cX5_item 44 = .ok (.invokestatic 60, 3) := by decide +kernel
theorem dX5_item_47 : decode cX5_item 47 = .ok (.ifCond .eq 18, 3) := by decide +kernel
theorem dX5_item_50 : decode cX5_item 50 = .ok (.aload_n 0, 1) := by decide +kernel
theorem dX5_item_51 : decode cX5_item 51 = .ok (.getfield 40, 3) := by decide +kernel
theorem dX5_item_54 : decode cX5_item 54 = .ok (.bipush 40, 2) := by decide +kernel
theorem dX5_item_56 : decode cX5_item 56 = .ok (.iload_n 1, 1) := by decide +kernel
theorem dX5_item_57 : decode cX5_item 57 = .ok (.imul, 1) := by decide +kernel
theorem dX5_item_58 : decode cX5_item 58 = .ok (.iload_n 3, 1) := by decide +kernel
theorem dX5_item_59 : decode cX5_item 59 = .ok (.iadd, 1) := by decide +kernel
theorem dX5_item_60 : decode cX5_item 60 = .ok (.laload, 1) := by decide +kernel
theorem dX5_item_61 : decode cX5_item 61 = .ok (.l2i, 1) := by decide +kernel
theorem dX5_item_62 : decode cX5_item 62 = .ok (.goto 5, 3) := by decide +kernel
theorem dX5_item_65 : decode cX5_item 65 = .ok (.bipush (-12), 2) := by decide +kernel
theorem dX5_item_67 : decode cX5_item 67 = .ok (.ireturn, 1) := by decide +kernel
set_option maxRecDepth 20000 in
theorem ggX5_isHeld_X5_isOne : GoodIn wsX5_isHeld wsX5_isOne := goodIn_r _ [5, 6, 7, 8, 4, 9, 13, 14, 15, 16, 17, 18, 19, 20, 21, 22, 23, 24, 25, 26, 27, 28, 29, 30, 31, 32, 33, 34, 35, 36, 37, 38, 39, 40, 41, 42] (by decide +kernel) (by decide +kernel)
set_option maxRecDepth 20000 in
theorem gX5_isHeld_X5_isOne : GoodIn wsX5_isHeld (wsV RX5 207 RX5 yX5_isOne wsX5_isOne) := goodIn_app (goodIn_of _ (by decide +kernel)) ggX5_isHeld_X5_isOne
set_option maxRecDepth 20000 in
theorem ggX5_isHeld_X5_isShelf : GoodIn wsX5_isHeld wsX5_isShelf := goodIn_r _ [12, 7, 8, 4, 9] (by decide +kernel) (by decide +kernel)
set_option maxRecDepth 20000 in
theorem gX5_isHeld_X5_isShelf : GoodIn wsX5_isHeld (va_wsS RX5 297 yX5_isShelf wsX5_isShelf) := goodIn_app (goodIn_of _ (by decide +kernel)) ggX5_isHeld_X5_isShelf
theorem dX5_isHeld_0 : decode cX5_isHeld 0 = .ok (.iload_n 1, 1) := by decide +kernel
theorem dX5_isHeld_1 : decode cX5_isHeld 1 = .ok (.ifCond .ne 11, 3) := by decide +kernel
theorem dX5_isHeld_4 : decode cX5_isHeld 4 = .ok (.aload_n 0, 1) := by decide +kernel
theorem dX5_isHeld_5 : decode cX5_isHeld 5 = .ok (.iload_n 2, 1) := by decide +kernel
theorem dX5_isHeld_6 : decode cX5_isHeld 6 = .ok (.invokevirtual 207, 3) := by decide +kernel
theorem dX5_isHeld_9 : decode cX5_isHeld 9 = .ok (.goto 25, 3) := by decide +kernel
theorem dX5_isHeld_12 : decode cX5_isHeld 12 = .ok (.iload_n 1, 1) := by decide +kernel
theorem dX5_isHeld_13 : decode cX5_isHeld 13 = .ok (.iconst 1, 1) := by decide +kernel
theorem dX5_isHeld_14 : decode cX5_isHeld 14 = .ok (.if_icmp .ne 10, 3) := by decide +kernel
theorem dX5_isHeld_17 : decode cX5_isHeld 17 = .ok (.iload_n 2, 1) := by decide +kernel
theorem dX5_isHeld_18 : decode cX5_isHeld 18 = .ok (.invokestatic 297, 3) := by decide +kernel
theorem dX5_isHeld_21 : decode cX5_isHeld 21 = .ok (.goto 13, 3) := by decide +kernel
theorem dX5_isHeld_24 : decode cX5_isHeld 24 = .ok (.iload_n 1, 1) := by decide +kernel
theorem dX5_isHeld_25 : decode cX5_isHeld 25 = .ok (.iconst 2, 1) := by decide +kernel
theorem dX5_isHeld_26 : decode cX5_isHeld 26 = .ok (.if_icmp .ne 7, 3) := by decide +kernel
theorem dX5_isHeld_29 : decode cX5_isHeld 29 = .ok (.iconst 1, 1) := by decide +kernel
theorem dX5_isHeld_30 : decode cX5_isHeld 30 = .ok (.goto 4, 3) := by decide +kernel
theorem dX5_isHeld_33 : decode cX5_isHeld 33 = .ok (.iconst 0, 1) := by decide +kernel
theorem dX5_isHeld_34 : decode cX5_isHeld 34 = .ok (.ireturn, 1) := by decide +kernel
set_option maxRecDepth 20000 in
theorem ggX5_shelf_X5_isShelf : GoodIn wsX5_shelf wsX5_isShelf := goodIn_r _ [9, 10, 11, 8, 12] (by decide +kernel) (by decide +kernel)
set_option maxRecDepth 20000 in
theorem gX5_shelf_X5_isShelf : GoodIn wsX5_shelf (va_wsS RX5 297 yX5_isShelf wsX5_isShelf) := goodIn_app (goodIn_of _ (by decide +kernel)) ggX5_shelf_X5_isShelf
set_option maxRecDepth 20000 in
theorem ggX5_shelf_X5_isHeld : GoodIn wsX5_shelf wsX5_isHeld := goodIn_r _ [16, 17, 18, 19, 8, 20, 21, 10, 11, 12, 6, 7, 9, 22, 23, 24, 25, 26, 27, 28, 29, 30, 31, 32, 33, 34, 35, 36, 37, 38, 39, 40, 41, 42, 43, 44, 45, 46, 47, 48, 49, 50, 51] (by decide +kernel) (by decide +kernel)
set_option maxRecDepth 20000 in
theorem gX5_shelf_X5_isHeld : GoodIn wsX5_shelf (wsV RX5 323 RX5 yX5_isHeld wsX5_isHeld) := goodIn_app (goodIn_of _ (by decide +kernel)) ggX5_shelf_X5_isHeld
theorem dX5_shelf_0 : decode cX5_shelf 0 = .ok (.iload_n 1, 1) := by decide +kernel
theorem dX5_shelf_1 : decode cX5_shelf 1 = .ok (.invokestatic 297, 3) := by decide +kernel
theorem dX5_shelf_4 : decode cX5_shelf 4 = .ok (.ifCond .eq 12, 3) := by decide +kernel
theorem dX5_shelf_7 : decode cX5_shelf 7 = .ok (.aload_n 0, 1) := by decide +kernel
theorem dX5_shelf_8 : decode cX5_shelf 8 = .ok (.iload_n 2, 1) := by decide +kernel
theorem dX5_shelf_9 : decode cX5_shelf 9 = .ok (.iload_n 3, 1) := by decide +kernel
theorem dX5_shelf_10 : decode cX5_shelf 10 = .ok (.invokevirtual 323, 3) := by decide +kernel
theorem dX5_shelf_13 : decode cX5_shelf 13 = .ok (.ifCond .ne 5, 3) := by decide +kernel
theorem dX5_shelf_16 : decode cX5_shelf 16 = .ok (.iconst (-1), 1) := by decide +kernel
theorem dX5_shelf_17 : decode cX5_shelf 17 = .ok (.ireturn, 1) := by decide +kernel
theorem dX5_shelf_18 : decode cX5_shelf 18 = .ok (.aload_n 0, 1) := by decide +kernel
theorem dX5_shelf_19 : decode cX5_shelf 19 = .ok (.getfield 44, 3) := by decide +kernel
theorem dX5_shelf_22 : decode cX5_shelf 22 = .ok (.iload_n 1, 1) := by decide +kernel
theorem dX5_shelf_23 : decode cX5_shelf 23 = .ok (.iload_n 2, 1) := by decide +kernel
theorem dX5_shelf_24 : decode cX5_shelf 24 = .ok (.iconst 2, 1) := by decide +kernel
theorem dX5_shelf_25 : decode cX5_shelf 25 = .ok (.if_icmp .eq 17, 3) := by decide +kernel
theorem dX5_shelf_28 : decode cX5_shelf 28 = .ok (.iload_n 2, 1) := by decide +kernel
theorem dX5_shelf_29 : decode cX5_shelf 29 = .ok (.iconst 1, 1) := by decide +kernel
theorem dX5_shelf_30 : decode cX5_shelf 30 = .ok (.if_icmp .ne 16, 3) := by decide +kernel
theorem dX5_shelf_33 : decode cX5_shelf 33 = .ok (.aload_n 0, 1) := by decide +kernel
theorem dX5_shelf_34 : decode cX5_shelf 34 = .ok (.getfield 34, 3) := by decide +kernel
theorem dX5_shelf_37 : decode cX5_shelf 37 = .ok (.iload_n 3, 1) := by decide +kernel
theorem dX5_shelf_38 : decode cX5_shelf 38 = .ok (.iaload, 1) := by decide +kernel
theorem dX5_shelf_39 : decode cX5_shelf 39 = .ok (.ifCond .ge 7, 3) := by decide +kernel
theorem dX5_shelf_42 : decode cX5_shelf 42 = .ok (.iconst (-1), 1) := by decide +kernel
theorem dX5_shelf_43 : decode cX5_shelf 43 = .ok (.goto 4, 3) := by decide +kernel
theorem dX5_shelf_46 : decode cX5_shelf 46 = .ok (.iload_n 2, 1) := by decide +kernel
theorem dX5_shelf_47 : decode cX5_shelf 47 = .ok (.iastore, 1) := by decide +kernel
theorem dX5_shelf_48 : decode cX5_shelf 48 = .ok (.aload_n 0, 1) := by decide +kernel
theorem dX5_shelf_49 : decode cX5_shelf 49 = .ok (.getfield 47, 3) := by decide +kernel
theorem dX5_shelf_52 : decode cX5_shelf 52 = .ok (.iload_n 1, 1) := by decide +kernel
theorem dX5_shelf_53 : decode cX5_shelf 53 = .ok (.iload_n 2, 1) := by decide +kernel
theorem dX5_shelf_54 : decode cX5_shelf 54 = .ok (.iconst 1, 1) := by decide +kernel
theorem dX5_shelf_55 : decode cX5_shelf 55 = .ok (.if_icmp .ne 12, 3) := by decide +kernel
theorem dX5_shelf_58 : decode cX5_shelf 58 = .ok (.aload_n 0, 1) := by decide +kernel
theorem dX5_shelf_59 : decode cX5_shelf 59 = .ok (.getfield 34, 3) := by decide +kernel
theorem dX5_shelf_62 : decode cX5_shelf 62 = .ok (.iload_n 3, 1) := by decide +kernel
theorem dX5_shelf_63 : decode cX5_shelf 63 = .ok (.iaload, 1) := by decide +kernel
theorem dX5_shelf_64 : decode cX5_shelf 64 = .ok (.goto 4, 3) := by decide +kernel
theorem dX5_shelf_67 : decode cX5_shelf 67 = .ok (.iload_n 3, 1) := by decide +kernel
theorem dX5_shelf_68 : decode cX5_shelf 68 = .ok (.iastore, 1) := by decide +kernel
theorem dX5_shelf_69 : decode cX5_shelf 69 = .ok (.aload_n 0, 1) := by decide +kernel
theorem dX5_shelf_70 : decode cX5_shelf 70 = .ok (.getfield 50, 3) := by decide +kernel
theorem dX5_shelf_73 : decode cX5_shelf 73 = .ok (.iload_n 1, 1) := by decide +kernel
theorem dX5_shelf_74 : decode cX5_shelf 74 = .ok (.iload_n 2, 1) := by decide +kernel
theorem dX5_shelf_75 : decode cX5_shelf 75 = .ok (.iconst 1, 1) := by decide +kernel
theorem dX5_shelf_76 : decode cX5_shelf 76 = .ok (.if_icmp .ne 12, 3) := by decide +kernel
theorem dX5_shelf_79 : decode cX5_shelf 79 = .ok (.aload_n 0, 1) := by decide +kernel
theorem dX5_shelf_80 : decode cX5_shelf 80 = .ok (.getfield 37, 3) := by decide +kernel
theorem dX5_shelf_83 : decode cX5_shelf 83 = .ok (.iload_n 3, 1) := by decide +kernel
theorem dX5_shelf_84 : decode cX5_shelf 84 = .ok (.iaload, 1) := by decide +kernel
theorem dX5_shelf_85 : decode cX5_shelf 85 = .ok (.goto 4, 3) := by decide +kernel
theorem dX5_shelf_88 : decode cX5_shelf 88 = .ok (.iconst 0, 1) := by decide +kernel
theorem dX5_shelf_89 : decode cX5_shelf 89 = .ok (.iastore, 1) := by decide +kernel
theorem dX5_shelf_90 : decode cX5_shelf 90 = .ok (.iconst 1, 1) := by decide +kernel
theorem dX5_shelf_91 : decode cX5_shelf 91 = .ok (.ireturn, 1) := by decide +kernel
set_option maxRecDepth 20000 in
theorem ggX5_kindOn_X5_isOne : GoodIn wsX5_kindOn wsX5_isOne := goodIn_r _ [7, 8, 9, 10, 6, 11, 16, 17, 18, 19, 20, 21, 22, 23, 24, 25, 26, 27, 28, 29, 30, 31, 32, 33, 34, 35, 36, 37, 38, 39, 40, 41, 42, 43, 44, 45] (by decide +kernel) (by decide +kernel)
set_option maxRecDepth 20000 in
theorem gX5_kindOn_X5_isOne : GoodIn wsX5_kindOn (wsV RX5 207 RX5 yX5_isOne wsX5_isOne) := goodIn_app (goodIn_of _ (by decide +kernel)) ggX5_kindOn_X5_isOne
set_option maxRecDepth 20000 in
theorem ggX5_kindOn_X5_its : GoodIn wsX5_kindOn wsX5_its := goodIn_r _ [15, 8, 16, 17, 18, 19, 20, 21, 22, 23, 24, 25, 26, 27, 28, 29, 30, 31, 32, 33, 34, 35, 36, 37, 38, 39, 40, 41, 42, 43, 44, 45] (by decide +kernel) (by decide +kernel)
set_option maxRecDepth 20000 in
theorem gX5_kindOn_X5_its : GoodIn wsX5_kindOn (wsV RX5 210 RX5 yX5_its wsX5_its) := goodIn_app (goodIn_of _ (by decide +kernel)) ggX5_kindOn_X5_its
theorem dX5_kindOn_0 : decode cX5_kindOn 0 = .ok (.aload_n 0, 1) := by decide +kernel
theorem dX5_kindOn_1 : decode cX5_kindOn 1 = .ok (.getfield 44, 3) := by decide +kernel
theorem dX5_kindOn_4 : decode cX5_kindOn 4 = .ok (.iload_n 1, 1) := by decide +kernel
theorem dX5_kindOn_5 : decode cX5_kindOn 5 = .ok (.iaload, 1) := by decide +kernel
theorem dX5_kindOn_6 : decode cX5_kindOn 6 = .ok (.ifCond .eq 19, 3) := by decide +kernel
theorem dX5_kindOn_9 : decode cX5_kindOn 9 = .ok (.aload_n 0, 1) := by decide +kernel
theorem dX5_kindOn_10 : decode cX5_kindOn 10 = .ok (.getfield 44, 3) := by decide +kernel
theorem dX5_kindOn_13 : decode cX5_kindOn 13 = .ok (.iload_n 1, 1) := by decide +kernel
theorem dX5_kindOn_14 : decode cX5_kindOn 14 = .ok (.iaload, 1) := by decide +kernel
theorem dX5_kindOn_15 : decode cX5_kindOn 15 = .ok (.ifCond .ge 7, 3) := by decide +kernel
theorem dX5_kindOn_18 : decode cX5_kindOn 18 = .ok (.iconst (-1), 1) := by decide +kernel
theorem dX5_kindOn_19 : decode cX5_kindOn 19 = .ok (.goto 5, 3) := by decide +kernel
theorem dX5_kindOn_22 : decode cX5_kindOn 22 = .ok (.bipush 9, 2) := by decide +kernel
theorem dX5_kindOn_24 : decode cX5_kindOn 24 = .ok (.ireturn, 1) := by decide +kernel
theorem dX5_kindOn_25 : decode cX5_kindOn 25 = .ok (.aload_n 0, 1) := by decide +kernel
theorem dX5_kindOn_26 : decode cX5_kindOn 26 = .ok (.aload_n 0, 1) := by decide +kernel
theorem dX5_kindOn_27 : decode cX5_kindOn 27 = .ok (.getfield 47, 3) := by decide +kernel
theorem dX5_kindOn_30 : decode cX5_kindOn 30 = .ok (.iload_n 1, 1) := by decide +kernel
theorem dX5_kindOn_31 : decode cX5_kindOn 31 = .ok (.iaload, 1) := by decide +kernel
theorem dX5_kindOn_32 : decode cX5_kindOn 32 = .ok (.invokevirtual 207, 3) := by decide +kernel
theorem dX5_kindOn_35 : decode cX5_kindOn 35 = .ok (.ifCond .eq 17, 3) := by decide +kernel
theorem dX5_kindOn_38 : decode cX5_kindOn 38 = .ok (.aload_n 0, 1) := by decide +kernel
theorem dX5_kindOn_39 : decode cX5_kindOn 39 = .ok (.aload_n 0, 1) := by decide +kernel
theorem dX5_kindOn_40 : decode cX5_kindOn 40 = .ok (.getfield 47, 3) := by decide +kernel
theorem dX5_kindOn_43 : decode cX5_kindOn 43 = .ok (.iload_n 1, 1) := by decide +kernel
theorem dX5_kindOn_44 : decode cX5_kindOn 44 = .ok (.iaload, 1) := by decide +kernel
theorem dX5_kindOn_45 : decode cX5_kindOn 45 = .ok (.iconst 0, 1) := by decide +kernel
theorem dX5_kindOn_46 : decode cX5_kindOn 46 = .ok (.invokevirtual 210, 3) := by decide +kernel
theorem dX5_kindOn_49 : decode cX5_kindOn 49 = .ok (.goto 4, 3) := by decide +kernel
theorem dX5_kindOn_52 : decode cX5_kindOn 52 = .ok (.iconst (-1), 1) := by decide +kernel
theorem dX5_kindOn_53 : decode cX5_kindOn 53 = .ok (.ireturn, 1) := by decide +kernel
theorem dX5_isUnder_0 : decode cX5_isUnder 0 = .ok (.iload_n 1, 1) := by decide +kernel
theorem dX5_isUnder_1 : decode cX5_isUnder 1 = .ok (.ifCond .eq 28, 3) := by decide +kernel
theorem dX5_isUnder_4 : decode cX5_isUnder 4 = .ok (.iload_n 1, 1) := by decide +kernel
theorem dX5_isUnder_5 : decode cX5_isUnder 5 = .ok (.iload_n 0, 1) := by decide +kernel
theorem dX5_isUnder_6 : decode cX5_isUnder 6 = .ok (.if_icmp .eq 23, 3) := by decide +kernel
theorem dX5_isUnder_9 : decode cX5_isUnder 9 = .ok (.iload_n 1, 1) := by decide +kernel
theorem dX5_isUnder_10 : decode cX5_isUnder 10 = .ok (.iconst 1, 1) := by decide +kernel
theorem dX5_isUnder_11 : decode cX5_isUnder 11 = .ok (.if_icmp .ne 8, 3) := by decide +kernel
theorem dX5_isUnder_14 : decode cX5_isUnder 14 = .ok (.iload_n 0, 1) := by decide +kernel
theorem dX5_isUnder_15 : decode cX5_isUnder 15 = .ok (.iconst 3, 1) := by decide +kernel
theorem dX5_isUnder_16 : decode cX5_isUnder 16 = .ok (.if_icmp .eq 13, 3) := by decide +kernel
theorem dX5_isUnder_19 : decode cX5_isUnder 19 = .ok (.iload_n 1, 1) := by decide +kernel
theorem dX5_isUnder_20 : decode cX5_isUnder 20 = .ok (.iconst 2, 1) := by decide +kernel
theorem dX5_isUnder_21 : decode cX5_isUnder 21 = .ok (.if_icmp .ne 12, 3) := by decide +kernel
theorem dX5_isUnder_24 : decode cX5_isUnder 24 = .ok (.iload_n 0, 1) := by decide +kernel
theorem dX5_isUnder_25 : decode cX5_isUnder 25 = .ok (.iconst 4, 1) := by decide +kernel
theorem dX5_isUnder_26 : decode cX5_isUnder 26 = .ok (.if_icmp .ne 7, 3) := by decide +kernel
theorem dX5_isUnder_29 : decode cX5_isUnder 29 = .ok (.iconst 1, 1) := by decide +kernel
theorem dX5_isUnder_30 : decode cX5_isUnder 30 = .ok (.goto 4, 3) := by decide +kernel
theorem dX5_isUnder_33 : decode cX5_isUnder 33 = .ok (.iconst 0, 1) := by decide +kernel
theorem dX5_isUnder_34 : decode cX5_isUnder 34 = .ok (.ireturn, 1) := by decide +kernel
set_option maxRecDepth 20000 in
theorem ggX5_taken_X5_isShelf : GoodIn wsX5_taken wsX5_isShelf := goodIn_r _ [6, 7, 8, 5, 9] (by decide +kernel) (by decide +kernel)
set_option maxRecDepth 20000 in
theorem gX5_taken_X5_isShelf : GoodIn wsX5_taken (va_wsS RX5 297 yX5_isShelf wsX5_isShelf) := goodIn_app (goodIn_of _ (by decide +kernel)) ggX5_taken_X5_isShelf
set_option maxRecDepth 20000 in
theorem ggX5_taken_X5_in : GoodIn wsX5_taken wsX5_in := goodIn_r _ [9] (by decide +kernel) (by decide +kernel)
set_option maxRecDepth 20000 in
theorem gX5_taken_X5_in : GoodIn wsX5_taken (va_wsS RX5 60 yX5_in wsX5_in) := goodIn_app (goodIn_of _ (by decide +kernel)) ggX5_taken_X5_in
set_option maxRecDepth 20000 in
theorem ggX5_taken_X5_kindOn : GoodIn wsX5_taken wsX5_kindOn := goodIn_r _ [13, 14, 1, 15, 16, 17, 5, 18, 19, 7, 8, 9, 20, 21, 22, 23, 27, 28, 29, 30, 31, 32, 33, 34, 35, 36, 37, 38, 39, 40, 41, 42, 43, 44, 45, 46, 47, 48, 49, 50, 51, 52, 53, 54, 55, 56] (by decide +kernel) (by decide +kernel)
set_option maxRecDepth 20000 in
theorem gX5_taken_X5_kindOn : GoodIn wsX5_taken (wsV RX5 326 RX5 yX5_kindOn wsX5_kindOn) := goodIn_app (goodIn_of _ (by decide +kernel)) ggX5_taken_X5_kindOn
set_option maxRecDepth 20000 in
theorem ggX5_taken_X5_isUnder : GoodIn wsX5_taken wsX5_isUnder := goodIn_r _ [26] (by decide +kernel) (by decide +kernel)
set_option maxRecDepth 20000 in
theorem gX5_taken_X5_isUnder : GoodIn wsX5_taken (va_wsS RX5 329 yX5_isUnder wsX5_isUnder) := goodIn_app (goodIn_of _ (by decide +kernel)) ggX5_taken_X5_isUnder
theorem dX5_taken_0 : decode cX5_taken 0 = .ok (.iload_n 1, 1) := by decide +kernel
theorem dX5_taken_1 : decode cX5_taken 1 = .ok (.invokestatic 297, 3) := by decide +kernel
theorem dX5_taken_4 : decode cX5_taken 4 = .ok (.ifCond .eq 23, 3) := by decide +kernel
theorem dX5_taken_7 : decode cX5_taken 7 = .ok (.iload_n 2, 1) := by decide +kernel
theorem dX5_taken_8 : decode cX5_taken 8 = .ok (.iconst 0, 1) := by decide +kernel
theorem dX5_taken_9 : decode cX5_taken 9 = .ok (.iconst 5, 1) := by decide +kernel
theorem dX5_taken_10 : decode cX5_taken 10 = .ok (.invokestatic 60, 3) := by decide +kernel
theorem dX5_taken_13 : decode cX5_taken 13 = .ok (.ifCond .ne 16, 3) := by decide +kernel
theorem dX5_taken_16 : decode cX5_taken 16 = .ok (.iload_n 2, 1) := by decide +kernel
theorem dX5_taken_17 : decode cX5_taken 17 = .ok (.bipush 10, 2) := by decide +kernel
theorem dX5_taken_19 : decode cX5_taken 19 = .ok (.bipush 13, 2) := by decide +kernel
theorem dX5_taken_21 : decode cX5_taken 21 = .ok (.invokestatic 60, 3) := by decide +kernel
theorem dX5_taken_24 : decode cX5_taken 24 = .ok (.ifCond .ne 5, 3) := by decide +kernel
theorem dX5_taken_27 : decode cX5_taken 27 = .ok (.iconst (-1), 1) := by decide +kernel
theorem dX5_taken_28 : decode cX5_taken 28 = .ok (.ireturn, 1) := by decide +kernel
theorem dX5_taken_29 : decode cX5_taken 29 = .ok (.aload_n 0, 1) := by decide +kernel
theorem dX5_taken_30 : decode cX5_taken 30 = .ok (.iload_n 1, 1) := by decide +kernel
theorem dX5_taken_31 : decode cX5_taken 31 = .ok (.invokevirtual 326, 3) := by decide +kernel
theorem dX5_taken_34 : decode cX5_taken 34 = .ok (.istore_n 3, 1) := by decide +kernel
theorem dX5_taken_35 : decode cX5_taken 35 = .ok (.iload_n 3, 1) := by decide +kernel
theorem dX5_taken_36 : decode cX5_taken 36 = .ok (.ifCond .ge 6, 3) := by decide +kernel
theorem dX5_taken_39 : decode cX5_taken 39 = .ok (.bipush (-11), 2) := by decide +kernel
theorem dX5_taken_41 : decode cX5_taken 41 = .ok (.ireturn, 1) := by decide +kernel
theorem dX5_taken_42 : decode cX5_taken 42 = .ok (.iload_n 3, 1) := by decide +kernel
theorem dX5_taken_43 : decode cX5_taken 43 = .ok (.bipush 9, 2) := by decide +kernel
theorem dX5_taken_45 : decode cX5_taken 45 = .ok (.if_icmp .ne 28, 3) := by decide +kernel
theorem dX5_taken_48 : decode cX5_taken 48 = .ok (.iload_n 2, 1) := by decide +kernel
theorem dX5_taken_49 : decode cX5_taken 49 = .ok (.bipush 10, 2) := by decide +kernel
theorem dX5_taken_51 : decode cX5_taken 51 = .ok (.aload_n 0, 1) := by decide +kernel
theorem dX5_taken_52 : decode cX5_taken 52 = .ok (.getfield 47, 3) := by decide +kernel
theorem dX5_taken_55 : decode cX5_taken 55 = .ok (.iload_n 1, 1) := by decide +kernel
theorem dX5_taken_56 : decode cX5_taken 56 = .ok (.iaload, 1) := by decide +kernel
theorem dX5_taken_57 : decode cX5_taken 57 = .ok (.iadd, 1) := by decide +kernel
theorem dX5_taken_58 : decode cX5_taken 58 = .ok (.if_icmp .ne 12, 3) := by decide +kernel
theorem dX5_taken_61 : decode cX5_taken 61 = .ok (.aload_n 0, 1) := by decide +kernel
theorem dX5_taken_62 : decode cX5_taken 62 = .ok (.getfield 50, 3) := by decide +kernel
theorem dX5_taken_65 : decode cX5_taken 65 = .ok (.iload_n 1, 1) := by decide +kernel
theorem dX5_taken_66 : decode cX5_taken 66 = .ok (.iaload, 1) := by decide +kernel
theorem dX5_taken_67 : decode cX5_taken 67 = .ok (.goto 5, 3) := by decide +kernel
theorem dX5_taken_70 : decode cX5_taken 70 = .ok (.bipush (-13), 2) := by decide +kernel
theorem dX5_taken_72 : decode cX5_taken 72 = .ok (.ireturn, 1) := by decide +kernel
theorem dX5_taken_73 : decode cX5_taken 73 = .ok (.iload_n 2, 1) := by decide +kernel
theorem dX5_taken_74 : decode cX5_taken 74 = .ok (.bipush 10, 2) := by decide +kernel
theorem dX5_taken_76 : decode cX5_taken 76 = .ok (.if_icmp .ge 20, 3) := by decide +kernel
theorem dX5_taken_79 : decode cX5_taken 79 = .ok (.iload_n 3, 1) := by decide +kernel
theorem dX5_taken_80 : decode cX5_taken 80 = .ok (.iload_n 2, 1) := by decide +kernel
theorem dX5_taken_81 : decode cX5_taken 81 = .ok (.invokestatic 329, 3) := by decide +kernel
theorem dX5_taken_84 : decode cX5_taken 84 = .ok (.ifCond .eq 12, 3) := by decide +kernel
theorem dX5_taken_87 : decode cX5_taken 87 = .ok (.aload_n 0, 1) := by decide +kernel
theorem dX5_taken_88 : decode cX5_taken 88 = .ok (.getfield 47, 3) := by decide +kernel
theorem dX5_taken_91 : decode cX5_taken 91 = .ok (.iload_n 1, 1) := by decide +kernel
theorem dX5_taken_92 : decode cX5_taken 92 = .ok (.iaload, 1) := by decide +kernel
theorem dX5_taken_93 : decode cX5_taken 93 = .ok (.goto 5, 3) := by decide +kernel
theorem dX5_taken_96 : decode cX5_taken 96 = .ok (.bipush (-13), 2) := by decide +kernel
theorem dX5_taken_98 : decode cX5_taken 98 = .ok (.ireturn, 1) := by decide +kernel
theorem dX5_ran_0 : decode cX5_ran 0 = .ok (.aload_n 0, 1) := by decide +kernel
theorem dX5_ran_1 : decode cX5_ran 1 = .ok (.getfield 332, 3) := by decide +kernel
theorem dX5_ran_4 : decode cX5_ran 4 = .ok (.bipush 30, 2) := by decide +kernel
theorem dX5_ran_6 : decode cX5_ran 6 = .ok (.if_icmp .ge 23, 3) := by decide +kernel
theorem dX5_ran_9 : decode cX5_ran 9 = .ok (.aload_n 0, 1) := by decide +kernel
theorem dX5_ran_10 : decode cX5_ran 10 = .ok (.getfield 53, 3) := by decide +kernel
theorem dX5_ran_13 : decode cX5_ran 13 = .ok (.aload_n 0, 1) := by decide +kernel
theorem dX5_ran_14 : decode cX5_ran 14 = .ok (.getfield 332, 3) := by decide +kernel
theorem dX5_ran_17 : decode cX5_ran 17 = .ok (.iload_n 1, 1) := by decide +kernel
theorem dX5_ran_18 : decode cX5_ran 18 = .ok (.iastore, 1) := by decide +kernel
theorem dX5_ran_19 : decode cX5_ran 19 = .ok (.aload_n 0, 1) := by decide +kernel
theorem dX5_ran_20 : decode cX5_ran 20 = .ok (.dup, 1) := by decide +kernel
theorem dX5_ran_21 : decode cX5_ran 21 = .ok (.getfield 332, 3) := by decide +kernel
theorem dX5_ran_24 : decode cX5_ran 24 = .ok (.iconst 1, 1) := by decide +kernel
theorem dX5_ran_25 : decode cX5_ran 25 = .ok (.iadd, 1) := by decide +kernel
theorem dX5_ran_26 : decode cX5_ran 26 = .ok (.putfield 332, 3) := by decide +kernel
theorem dX5_ran_29 : decode cX5_ran 29 = .ok (.return_, 1) := by decide +kernel
set_option maxRecDepth 20000 in
theorem ggX5_plainSprays_X5_ran : GoodIn wsX5_plainSprays wsX5_ran := goodIn_r _ [6, 7, 8, 9, 10, 11, 12, 13, 14, 15, 16, 17, 18, 19, 20, 21, 22, 23, 24, 25, 26, 27, 28, 29, 30, 31, 32, 33, 34, 35, 36, 37, 38] (by decide +kernel) (by decide +kernel)
set_option maxRecDepth 20000 in
theorem gX5_plainSprays_X5_ran : GoodIn wsX5_plainSprays (wsV RX5 335 RX5 yX5_ran wsX5_ran) := goodIn_app (goodIn_of _ (by decide +kernel)) ggX5_plainSprays_X5_ran
theorem dX5_plainSprays_0 : decode cX5_plainSprays 0 = .ok (.aload_n 0, 1) := by decide +kernel
theorem dX5_plainSprays_1 : decode cX5_plainSprays 1 = .ok (.bipush 10, 2) := by decide +kernel
theorem dX5_plainSprays_3 : decode cX5_plainSprays 3 = .ok (.invokevirtual 335, 3) := by decide +kernel
theorem dX5_plainSprays_6 : decode cX5_plainSprays 6 = .ok (.iload_n 1, 1) := by decide +kernel
theorem dX5_plainSprays_7 : decode cX5_plainSprays 7 = .ok (.bipush 7, 2) := by decide +kernel
theorem dX5_plainSprays_9 : decode cX5_plainSprays 9 = .ok (.imul, 1) := by decide +kernel
theorem dX5_plainSprays_10 : decode cX5_plainSprays 10 = .ok (.aload_n 0, 1) := by decide +kernel
theorem dX5_plainSprays_11 : decode cX5_plainSprays 11 = .ok (.getfield 338, 3) := by decide +kernel
theorem dX5_plainSprays_14 : decode cX5_plainSprays 14 = .ok (.iadd, 1) := by decide +kernel
theorem dX5_plainSprays_15 : decode cX5_plainSprays 15 = .ok (.ireturn, 1) := by decide +kernel
set_option maxRecDepth 20000 in
theorem ggX5_coveredSprays_X5_ran : GoodIn wsX5_coveredSprays wsX5_ran := goodIn_r _ [5, 6, 7, 13, 14, 15, 16, 17, 18, 19, 20, 21, 22, 23, 24, 25, 26, 27, 28, 29, 30, 31, 32, 33, 34, 35, 36, 37, 38, 39, 40, 41, 42] (by decide +kernel) (by decide +kernel)
set_option maxRecDepth 20000 in
theorem gX5_coveredSprays_X5_ran : GoodIn wsX5_coveredSprays (wsV RX5 335 RX5 yX5_ran wsX5_ran) := goodIn_app (goodIn_of _ (by decide +kernel)) ggX5_coveredSprays_X5_ran
set_option maxRecDepth 20000 in
theorem ggX5_coveredSprays_X5_plainSprays : GoodIn wsX5_coveredSprays wsX5_plainSprays := goodIn_r _ [11, 12, 1, 2, 3, 4, 5, 6, 7, 13, 14, 15, 16, 17, 18, 19, 20, 21, 22, 23, 24, 25, 26, 27, 28, 29, 30, 31, 32, 33, 34, 35, 36, 37, 38, 39, 40, 41, 42] (by decide +kernel) (by decide +kernel)
set_option maxRecDepth 20000 in
theorem gX5_coveredSprays_X5_plainSprays : GoodIn wsX5_coveredSprays (wsV RX5 341 RX5 yX5_plainSprays wsX5_plainSprays) := goodIn_app (goodIn_of _ (by decide +kernel)) ggX5_coveredSprays_X5_plainSprays
theorem dX5_coveredSprays_0 : decode cX5_coveredSprays 0 = .ok (.aload_n 0, 1) := by decide +kernel
theorem dX5_coveredSprays_1 : decode cX5_coveredSprays 1 = .ok (.bipush 30, 2) := by decide +kernel
theorem dX5_coveredSprays_3 : decode cX5_coveredSprays 3 = .ok (.invokevirtual 335, 3) := by decide +kernel
theorem dX5_coveredSprays_6 : decode cX5_coveredSprays 6 = .ok (.aload_n 0, 1) := by decide +kernel
theorem dX5_coveredSprays_7 : decode cX5_coveredSprays 7 = .ok (.iload_n 1, 1) := by decide +kernel
theorem dX5_coveredSprays_8 : decode cX5_coveredSprays 8 = .ok (.invokevirtual 341, 3) := by decide +kernel
theorem dX5_coveredSprays_11 : decode cX5_coveredSprays 11 = .ok (.ineg, 1) := by decide +kernel
theorem dX5_coveredSprays_12 : decode cX5_coveredSprays 12 = .ok (.ireturn, 1) := by decide +kernel
set_option maxRecDepth 20000 in
theorem ggX5_spraysIt_X5_coveredSprays : GoodIn wsX5_spraysIt wsX5_coveredSprays := goodIn_r _ [7, 8, 9, 10, 6, 11, 12, 13, 14, 15, 16, 17, 18, 19, 20, 21, 22, 23, 24, 25, 26, 27, 28, 29, 30, 31, 32, 33, 34, 35, 36, 37, 38, 39, 40, 41, 42, 43, 44, 45, 46, 47, 48] (by decide +kernel) (by decide +kernel)
set_option maxRecDepth 20000 in
theorem gX5_spraysIt_X5_coveredSprays : GoodIn wsX5_spraysIt (wsV RX5 347 RX5 yX5_coveredSprays wsX5_coveredSprays) := goodIn_app (goodIn_of _ (by decide +kernel)) ggX5_spraysIt_X5_coveredSprays
set_option maxRecDepth 20000 in
theorem ggX5_spraysIt_X5_ran : GoodIn wsX5_spraysIt wsX5_ran := goodIn_r _ [11, 12, 13, 19, 20, 21, 22, 23, 24, 25, 26, 27, 28, 29, 30, 31, 32, 33, 34, 35, 36, 37, 38, 39, 40, 41, 42, 43, 44, 45, 46, 47, 48] (by decide +kernel) (by decide +kernel)
set_option maxRecDepth 20000 in
theorem gX5_spraysIt_X5_ran : GoodIn wsX5_spraysIt (wsV RX5 335 RX5 yX5_ran wsX5_ran) := goodIn_app (goodIn_of _ (by decide +kernel)) ggX5_spraysIt_X5_ran
set_option maxRecDepth 20000 in
theorem ggX5_spraysIt_X5_plainSprays : GoodIn wsX5_spraysIt wsX5_plainSprays := goodIn_r _ [17, 18, 8, 9, 10, 6, 11, 12, 13, 19, 20, 21, 22, 23, 24, 25, 26, 27, 28, 29, 30, 31, 32, 33, 34, 35, 36, 37, 38, 39, 40, 41, 42, 43, 44, 45, 46, 47, 48] (by decide +kernel) (by decide +kernel)
set_option maxRecDepth 20000 in
theorem gX5_spraysIt_X5_plainSprays : GoodIn wsX5_spraysIt (wsV RX5 341 RX5 yX5_plainSprays wsX5_plainSprays) := goodIn_app (goodIn_of _ (by decide +kernel)) ggX5_spraysIt_X5_plainSprays
theorem dX5_spraysIt_0 : decode cX5_spraysIt 0 = .ok (.aload_n 0, 1) := by decide +kernel
theorem dX5_spraysIt_1 : decode cX5_spraysIt 1 = .ok (.getfield 344, 3) := by decide +kernel
theorem dX5_spraysIt_4 : decode cX5_spraysIt 4 = .ok (.tableswitch 66 2 4 #[28, 49, 34], 28) := by decide +kernel
theorem dX5_spraysIt_32 : decode cX5_spraysIt 32 = .ok (.aload_n 0, 1) := by decide +kernel
theorem dX5_spraysIt_33 : decode cX5_spraysIt 33 = .ok (.iload_n 1, 1) := by decide +kernel
theorem dX5_spraysIt_34 : decode cX5_spraysIt 34 = .ok (.invokevirtual 347, 3) := by decide +kernel
theorem dX5_spraysIt_37 : decode cX5_spraysIt 37 = .ok (.ireturn, 1) := by decide +kernel
theorem dX5_spraysIt_38 : decode cX5_spraysIt 38 = .ok (.aload_n 0, 1) := by decide +kernel
theorem dX5_spraysIt_39 : decode cX5_spraysIt 39 = .ok (.bipush 40, 2) := by decide +kernel
theorem dX5_spraysIt_41 : decode cX5_spraysIt 41 = .ok (.invokevirtual 335, 3) := by decide +kernel
theorem dX5_spraysIt_44 : decode cX5_spraysIt 44 = .ok (.aload_n 0, 1) := by decide +kernel
theorem dX5_spraysIt_45 : decode cX5_spraysIt 45 = .ok (.iload_n 1, 1) := by decide +kernel
theorem dX5_spraysIt_46 : decode cX5_spraysIt 46 = .ok (.invokevirtual 347, 3) := by decide +kernel
theorem dX5_spraysIt_49 : decode cX5_spraysIt 49 = .ok (.bipush 12, 2) := by decide +kernel
theorem dX5_spraysIt_51 : decode cX5_spraysIt 51 = .ok (.ixor, 1) := by decide +kernel
theorem dX5_spraysIt_52 : decode cX5_spraysIt 52 = .ok (.ireturn, 1) := by decide +kernel
theorem dX5_spraysIt_53 : decode cX5_spraysIt 53 = .ok (.aload_n 0, 1) := by decide +kernel
theorem dX5_spraysIt_54 : decode cX5_spraysIt 54 = .ok (.bipush 51, 2) := by decide +kernel
theorem dX5_spraysIt_56 : decode cX5_spraysIt 56 = .ok (.invokevirtual 335, 3) := by decide +kernel
theorem dX5_spraysIt_59 : decode cX5_spraysIt 59 = .ok (.aload_n 0, 1) := by decide +kernel
theorem dX5_spraysIt_60 : decode cX5_spraysIt 60 = .ok (.iload_n 1, 1) := by decide +kernel
theorem dX5_spraysIt_61 : decode cX5_spraysIt 61 = .ok (.invokevirtual 341, 3) := by decide +kernel
theorem dX5_spraysIt_64 : decode cX5_spraysIt 64 = .ok (.aload_n 0, 1) := by decide +kernel
theorem dX5_spraysIt_65 : decode cX5_spraysIt 65 = .ok (.getfield 350, 3) := by decide +kernel
theorem dX5_spraysIt_68 : decode cX5_spraysIt 68 = .ok (.isub, 1) := by decide +kernel
theorem dX5_spraysIt_69 : decode cX5_spraysIt 69 = .ok (.ireturn, 1) := by decide +kernel
theorem dX5_spraysIt_70 : decode cX5_spraysIt 70 = .ok (.aload_n 0, 1) := by decide +kernel
theorem dX5_spraysIt_71 : decode cX5_spraysIt 71 = .ok (.iload_n 1, 1) := by decide +kernel
theorem dX5_spraysIt_72 : decode cX5_spraysIt 72 = .ok (.invokevirtual 341, 3) := by decide +kernel
theorem dX5_spraysIt_75 : decode cX5_spraysIt 75 = .ok (.ireturn, 1) := by decide +kernel
set_option maxRecDepth 20000 in
theorem ggX5_plainDrips_X5_ran : GoodIn wsX5_plainDrips wsX5_ran := goodIn_r _ [6, 7, 8, 23, 24, 25, 26, 27, 28, 29, 30, 31, 32, 33, 34, 35, 36, 37, 38, 39, 40, 41, 42, 43, 44, 45, 46, 47, 48, 49, 50, 51, 52] (by decide +kernel) (by decide +kernel)
set_option maxRecDepth 20000 in
theorem gX5_plainDrips_X5_ran : GoodIn wsX5_plainDrips (wsV RX5 335 RX5 yX5_ran wsX5_ran) := goodIn_app (goodIn_of _ (by decide +kernel)) ggX5_plainDrips_X5_ran
set_option maxRecDepth 20000 in
theorem ggX5_plainDrips_X5_spraysIt : GoodIn wsX5_plainDrips wsX5_spraysIt := goodIn_r _ [12, 13, 1, 14, 15, 16, 5, 17, 2, 3, 4, 6, 7, 8, 18, 19, 20, 21, 22, 23, 24, 25, 26, 27, 28, 29, 30, 31, 32, 33, 34, 35, 36, 37, 38, 39, 40, 41, 42, 43, 44, 45, 46, 47, 48, 49, 50, 51, 52] (by decide +kernel) (by decide +kernel)
set_option maxRecDepth 20000 in
theorem gX5_plainDrips_X5_spraysIt : GoodIn wsX5_plainDrips (wsV RX5 353 RX5 yX5_spraysIt wsX5_spraysIt) := goodIn_app (goodIn_of _ (by decide +kernel)) ggX5_plainDrips_X5_spraysIt
theorem dX5_plainDrips_0 : decode cX5_plainDrips 0 = .ok (.aload_n 0, 1) := by decide +kernel
theorem dX5_plainDrips_1 : decode cX5_plainDrips 1 = .ok (.bipush 11, 2) := by decide +kernel
theorem dX5_plainDrips_3 : decode cX5_plainDrips 3 = .ok (.invokevirtual 335, 3) := by decide +kernel
theorem dX5_plainDrips_6 : decode cX5_plainDrips 6 = .ok (.aload_n 0, 1) := by decide +kernel
theorem dX5_plainDrips_7 : decode cX5_plainDrips 7 = .ok (.iload_n 1, 1) := by decide +kernel
theorem dX5_plainDrips_8 : decode cX5_plainDrips 8 = .ok (.invokevirtual 353, 3) := by decide +kernel
theorem dX5_plainDrips_11 : decode cX5_plainDrips 11 = .ok (.aload_n 0, 1) := by decide +kernel
theorem dX5_plainDrips_12 : decode cX5_plainDrips 12 = .ok (.getfield 350, 3) := by decide +kernel
theorem dX5_plainDrips_15 : decode cX5_plainDrips 15 = .ok (.iconst 5, 1) := by decide +kernel
theorem dX5_plainDrips_16 : decode cX5_plainDrips 16 = .ok (.imul, 1) := by decide +kernel
theorem dX5_plainDrips_17 : decode cX5_plainDrips 17 = .ok (.isub, 1) := by decide +kernel
theorem dX5_plainDrips_18 : decode cX5_plainDrips 18 = .ok (.ireturn, 1) := by decide +kernel
set_option maxRecDepth 20000 in
theorem ggX5_dripsIt_X5_ran : GoodIn wsX5_dripsIt wsX5_ran := goodIn_r _ [7, 8, 9, 27, 28, 29, 30, 31, 32, 33, 34, 35, 36, 37, 38, 39, 40, 41, 42, 43, 44, 45, 46, 47, 48, 49, 50, 51, 52, 53, 54, 55, 56] (by decide +kernel) (by decide +kernel)
set_option maxRecDepth 20000 in
theorem gX5_dripsIt_X5_ran : GoodIn wsX5_dripsIt (wsV RX5 335 RX5 yX5_ran wsX5_ran) := goodIn_app (goodIn_of _ (by decide +kernel)) ggX5_dripsIt_X5_ran
set_option maxRecDepth 20000 in
theorem ggX5_dripsIt_X5_plainDrips : GoodIn wsX5_dripsIt wsX5_plainDrips := goodIn_r _ [13, 2, 3, 4, 5, 6, 7, 8, 9, 14, 15, 16, 17, 1, 18, 19, 20, 21, 22, 23, 24, 25, 26, 27, 28, 29, 30, 31, 32, 33, 34, 35, 36, 37, 38, 39, 40, 41, 42, 43, 44, 45, 46, 47, 48, 49, 50, 51, 52, 53, 54, 55, 56] (by decide +kernel) (by decide +kernel)
set_option maxRecDepth 20000 in
theorem gX5_dripsIt_X5_plainDrips : GoodIn wsX5_dripsIt (wsV RX5 356 RX5 yX5_plainDrips wsX5_plainDrips) := goodIn_app (goodIn_of _ (by decide +kernel)) ggX5_dripsIt_X5_plainDrips
set_option maxRecDepth 20000 in
theorem ggX5_dripsIt_X5_spraysIt : GoodIn wsX5_dripsIt wsX5_spraysIt := goodIn_r _ [17, 1, 2, 18, 19, 20, 6, 21, 3, 4, 5, 7, 8, 9, 22, 23, 24, 25, 26, 27, 28, 29, 30, 31, 32, 33, 34, 35, 36, 37, 38, 39, 40, 41, 42, 43, 44, 45, 46, 47, 48, 49, 50, 51, 52, 53, 54, 55, 56] (by decide +kernel) (by decide +kernel)
set_option maxRecDepth 20000 in
theorem gX5_dripsIt_X5_spraysIt : GoodIn wsX5_dripsIt (wsV RX5 353 RX5 yX5_spraysIt wsX5_spraysIt) := goodIn_app (goodIn_of _ (by decide +kernel)) ggX5_dripsIt_X5_spraysIt
theorem dX5_dripsIt_0 : decode cX5_dripsIt 0 = .ok (.aload_n 0, 1) := by decide +kernel
theorem dX5_dripsIt_1 : decode cX5_dripsIt 1 = .ok (.getfield 344, 3) := by decide +kernel
theorem dX5_dripsIt_4 : decode cX5_dripsIt 4 = .ok (.iconst 1, 1) := by decide +kernel
theorem dX5_dripsIt_5 : decode cX5_dripsIt 5 = .ok (.if_icmp .eq 11, 3) := by decide +kernel
theorem dX5_dripsIt_8 : decode cX5_dripsIt 8 = .ok (.aload_n 0, 1) := by decide +kernel
theorem dX5_dripsIt_9 : decode cX5_dripsIt 9 = .ok (.getfield 344, 3) := by decide +kernel
theorem dX5_dripsIt_12 : decode cX5_dripsIt 12 = .ok (.iconst 3, 1) := by decide +kernel
theorem dX5_dripsIt_13 : decode cX5_dripsIt 13 = .ok (.if_icmp .ne 18, 3) := by decide +kernel
theorem dX5_dripsIt_16 : decode cX5_dripsIt 16 = .ok (.aload_n 0, 1) := by decide +kernel
theorem dX5_dripsIt_17 : decode cX5_dripsIt 17 = .ok (.bipush 20, 2) := by decide +kernel
theorem dX5_dripsIt_19 : decode cX5_dripsIt 19 = .ok (.invokevirtual 335, 3) := by decide +kernel
theorem dX5_dripsIt_22 : decode cX5_dripsIt 22 = .ok (.aload_n 0, 1) := by decide +kernel
theorem dX5_dripsIt_23 : decode cX5_dripsIt 23 = .ok (.iload_n 1, 1) := by decide +kernel
theorem dX5_dripsIt_24 : decode cX5_dripsIt 24 = .ok (.invokevirtual 356, 3) := by decide +kernel
theorem dX5_dripsIt_27 : decode cX5_dripsIt 27 = .ok (.bipush 9, 2) := by decide +kernel
theorem dX5_dripsIt_29 : decode cX5_dripsIt 29 = .ok (.iadd, 1) := by decide +kernel
theorem dX5_dripsIt_30 : decode cX5_dripsIt 30 = .ok (.ireturn, 1) := by decide +kernel
theorem dX5_dripsIt_31 : decode cX5_dripsIt 31 = .ok (.aload_n 0, 1) := by decide +kernel
theorem dX5_dripsIt_32 : decode cX5_dripsIt 32 = .ok (.getfield 344, 3) := by decide +kernel
theorem dX5_dripsIt_35 : decode cX5_dripsIt 35 = .ok (.iconst 4, 1) := by decide +kernel
theorem dX5_dripsIt_36 : decode cX5_dripsIt 36 = .ok (.if_icmp .ne 26, 3) := by decide +kernel
theorem dX5_dripsIt_39 : decode cX5_dripsIt 39 = .ok (.aload_n 0, 1) := by decide +kernel
theorem dX5_dripsIt_40 : decode cX5_dripsIt 40 = .ok (.bipush 41, 2) := by decide +kernel
theorem dX5_dripsIt_42 : decode cX5_dripsIt 42 = .ok (.invokevirtual 335, 3) := by decide +kernel
theorem dX5_dripsIt_45 : decode cX5_dripsIt 45 = .ok (.aload_n 0, 1) := by decide +kernel
theorem dX5_dripsIt_46 : decode cX5_dripsIt 46 = .ok (.iload_n 1, 1) := by decide +kernel
theorem dX5_dripsIt_47 : decode cX5_dripsIt 47 = .ok (.invokevirtual 356, 3) := by decide +kernel
theorem dX5_dripsIt_50 : decode cX5_dripsIt 50 = .ok (.istore_n 2, 1) := by decide +kernel
theorem dX5_dripsIt_51 : decode cX5_dripsIt 51 = .ok (.iload_n 2, 1) := by decide +kernel
theorem dX5_dripsIt_52 : decode cX5_dripsIt 52 = .ok (.aload_n 0, 1) := by decide +kernel
theorem dX5_dripsIt_53 : decode cX5_dripsIt 53 = .ok (.aload_n 0, 1) := by decide +kernel
theorem dX5_dripsIt_54 : decode cX5_dripsIt 54 = .ok (.getfield 350, 3) := by decide +kernel
theorem dX5_dripsIt_57 : decode cX5_dripsIt 57 = .ok (.invokevirtual 353, 3) := by decide +kernel
theorem dX5_dripsIt_60 : decode cX5_dripsIt 60 = .ok (.iadd, 1) := by decide +kernel
theorem dX5_dripsIt_61 : decode cX5_dripsIt 61 = .ok (.ireturn, 1) := by decide +kernel
theorem dX5_dripsIt_62 : decode cX5_dripsIt 62 = .ok (.aload_n 0, 1) := by decide +kernel
theorem dX5_dripsIt_63 : decode cX5_dripsIt 63 = .ok (.iload_n 1, 1) := by decide +kernel
theorem dX5_dripsIt_64 : decode cX5_dripsIt 64 = .ok (.invokevirtual 356, 3) := by decide +kernel
theorem dX5_dripsIt_67 : decode cX5_dripsIt 67 = .ok (.ireturn, 1) := by decide +kernel
set_option maxRecDepth 20000 in
theorem ggX5_plainParts_X5_ran : GoodIn wsX5_plainParts wsX5_ran := goodIn_r _ [8, 9, 10, 11, 12, 13, 14, 15, 16, 17, 18, 19, 20, 21, 22, 23, 24, 25, 26, 27, 28, 29, 30, 31, 32, 33, 34, 35, 36, 37, 38, 39, 40] (by decide +kernel) (by decide +kernel)
set_option maxRecDepth 20000 in
theorem gX5_plainParts_X5_ran : GoodIn wsX5_plainParts (wsV RX5 335 RX5 yX5_ran wsX5_ran) := goodIn_app (goodIn_of _ (by decide +kernel)) ggX5_plainParts_X5_ran
theorem dX5_plainParts_0 : decode cX5_plainParts 0 = .ok (.aload_n 0, 1) := by decide +kernel
theorem dX5_plainParts_1 : decode cX5_plainParts 1 = .ok (.bipush 12, 2) := by decide +kernel
theorem dX5_plainParts_3 : decode cX5_plainParts 3 = .ok (.invokevirtual 335, 3) := by decide +kernel
theorem dX5_plainParts_6 : decode cX5_plainParts 6 = .ok (.aload_n 0, 1) := by decide +kernel
theorem dX5_plainParts_7 : decode cX5_plainParts 7 = .ok (.getfield 350, 3) := by decide +kernel
theorem dX5_plainParts_10 : decode cX5_plainParts 10 = .ok (.aload_n 0, 1) := by decide +kernel
theorem dX5_plainParts_11 : decode cX5_plainParts 11 = .ok (.getfield 338, 3) := by decide +kernel
theorem dX5_plainParts_14 : decode cX5_plainParts 14 = .ok (.if_icmp .ne 10, 3) := by decide +kernel
theorem dX5_plainParts_17 : decode cX5_plainParts 17 = .ok (.aload_n 0, 1) := by decide +kernel
theorem dX5_plainParts_18 : decode cX5_plainParts 18 = .ok (.iconst 1, 1) := by decide +kernel
theorem dX5_plainParts_19 : decode cX5_plainParts 19 = .ok (.putfield 359, 3) := by decide +kernel
theorem dX5_plainParts_22 : decode cX5_plainParts 22 = .ok (.iconst 0, 1) := by decide +kernel
theorem dX5_plainParts_23 : decode cX5_plainParts 23 = .ok (.ireturn, 1) := by decide +kernel
theorem dX5_plainParts_24 : decode cX5_plainParts 24 = .ok (.iload_n 1, 1) := by decide +kernel
theorem dX5_plainParts_25 : decode cX5_plainParts 25 = .ok (.aload_n 0, 1) := by decide +kernel
theorem dX5_plainParts_26 : decode cX5_plainParts 26 = .ok (.getfield 350, 3) := by decide +kernel
theorem dX5_plainParts_29 : decode cX5_plainParts 29 = .ok (.aload_n 0, 1) := by decide +kernel
theorem dX5_plainParts_30 : decode cX5_plainParts 30 = .ok (.getfield 338, 3) := by decide +kernel
theorem dX5_plainParts_33 : decode cX5_plainParts 33 = .ok (.isub, 1) := by decide +kernel
theorem dX5_plainParts_34 : decode cX5_plainParts 34 = .ok (.idiv, 1) := by decide +kernel
theorem dX5_plainParts_35 : decode cX5_plainParts 35 = .ok (.ireturn, 1) := by decide +kernel
set_option maxRecDepth 20000 in
theorem ggX5_partsIt_X5_ran : GoodIn wsX5_partsIt wsX5_ran := goodIn_r _ [8, 9, 10, 28, 29, 30, 31, 32, 33, 34, 35, 36, 37, 38, 39, 40, 41, 42, 43, 44, 45, 46, 47, 48, 49, 50, 51, 52, 53, 54, 55, 56, 57] (by decide +kernel) (by decide +kernel)
set_option maxRecDepth 20000 in
theorem gX5_partsIt_X5_ran : GoodIn wsX5_partsIt (wsV RX5 335 RX5 yX5_ran wsX5_ran) := goodIn_app (goodIn_of _ (by decide +kernel)) ggX5_partsIt_X5_ran
set_option maxRecDepth 20000 in
theorem ggX5_partsIt_X5_plainParts : GoodIn wsX5_partsIt wsX5_plainParts := goodIn_r _ [14, 15, 2, 3, 4, 5, 6, 7, 8, 9, 10, 28, 29, 30, 31, 32, 33, 34, 35, 36, 37, 38, 39, 40, 41, 42, 43, 44, 45, 46, 47, 48, 49, 50, 51, 52, 53, 54, 55, 56, 57] (by decide +kernel) (by decide +kernel)
set_option maxRecDepth 20000 in
theorem gX5_partsIt_X5_plainParts : GoodIn wsX5_partsIt (wsV RX5 362 RX5 yX5_plainParts wsX5_plainParts) := goodIn_app (goodIn_of _ (by decide +kernel)) ggX5_partsIt_X5_plainParts
set_option maxRecDepth 20000 in
theorem ggX5_partsIt_X5_spraysIt : GoodIn wsX5_partsIt wsX5_spraysIt := goodIn_r _ [19, 1, 15, 20, 21, 22, 7, 23, 4, 5, 6, 8, 9, 10, 24, 25, 26, 27, 2, 28, 29, 30, 31, 32, 33, 34, 35, 36, 37, 38, 39, 40, 41, 42, 43, 44, 45, 46, 47, 48, 49, 50, 51, 52, 53, 54, 55, 56, 57] (by decide +kernel) (by decide +kernel)
set_option maxRecDepth 20000 in
theorem gX5_partsIt_X5_spraysIt : GoodIn wsX5_partsIt (wsV RX5 353 RX5 yX5_spraysIt wsX5_spraysIt) := goodIn_app (goodIn_of _ (by decide +kernel)) ggX5_partsIt_X5_spraysIt
theorem dX5_partsIt_0 : decode cX5_partsIt 0 = .ok (.aload_n 0, 1) := by decide +kernel
theorem dX5_partsIt_1 : decode cX5_partsIt 1 = .ok (.getfield 344, 3) := by decide +kernel
theorem dX5_partsIt_4 : decode cX5_partsIt 4 = .ok (.iconst 3, 1) := by decide +kernel
theorem dX5_partsIt_5 : decode cX5_partsIt 5 = .ok (.if_icmp .ne 22, 3) := by decide +kernel
theorem dX5_partsIt_8 : decode cX5_partsIt 8 = .ok (.aload_n 0, 1) := by decide +kernel
theorem dX5_partsIt_9 : decode cX5_partsIt 9 = .ok (.bipush 50, 2) := by decide +kernel
theorem dX5_partsIt_11 : decode cX5_partsIt 11 = .ok (.invokevirtual 335, 3) := by decide +kernel
theorem dX5_partsIt_14 : decode cX5_partsIt 14 = .ok (.aload_n 0, 1) := by decide +kernel
theorem dX5_partsIt_15 : decode cX5_partsIt 15 = .ok (.iload_n 1, 1) := by decide +kernel
theorem dX5_partsIt_16 : decode cX5_partsIt 16 = .ok (.aload_n 0, 1) := by decide +kernel
theorem dX5_partsIt_17 : decode cX5_partsIt 17 = .ok (.getfield 338, 3) := by decide +kernel
theorem dX5_partsIt_20 : decode cX5_partsIt 20 = .ok (.isub, 1) := by decide +kernel
theorem dX5_partsIt_21 : decode cX5_partsIt 21 = .ok (.invokevirtual 362, 3) := by decide +kernel
theorem dX5_partsIt_24 : decode cX5_partsIt 24 = .ok (.iconst 4, 1) := by decide +kernel
theorem dX5_partsIt_25 : decode cX5_partsIt 25 = .ok (.imul, 1) := by decide +kernel
theorem dX5_partsIt_26 : decode cX5_partsIt 26 = .ok (.ireturn, 1) := by decide +kernel
theorem dX5_partsIt_27 : decode cX5_partsIt 27 = .ok (.aload_n 0, 1) := by decide +kernel
theorem dX5_partsIt_28 : decode cX5_partsIt 28 = .ok (.getfield 344, 3) := by decide +kernel
theorem dX5_partsIt_31 : decode cX5_partsIt 31 = .ok (.iconst 5, 1) := by decide +kernel
theorem dX5_partsIt_32 : decode cX5_partsIt 32 = .ok (.if_icmp .ne 37, 3) := by decide +kernel
theorem dX5_partsIt_35 : decode cX5_partsIt 35 = .ok (.aload_n 0, 1) := by decide +kernel
theorem dX5_partsIt_36 : decode cX5_partsIt 36 = .ok (.bipush 61, 2) := by decide +kernel
theorem dX5_partsIt_38 : decode cX5_partsIt 38 = .ok (.invokevirtual 335, 3) := by decide +kernel
theorem dX5_partsIt_41 : decode cX5_partsIt 41 = .ok (.aload_n 0, 1) := by decide +kernel
theorem dX5_partsIt_42 : decode cX5_partsIt 42 = .ok (.iload_n 1, 1) := by decide +kernel
theorem dX5_partsIt_43 : decode cX5_partsIt 43 = .ok (.invokevirtual 362, 3) := by decide +kernel
theorem dX5_partsIt_46 : decode cX5_partsIt 46 = .ok (.istore_n 2, 1) := by decide +kernel
theorem dX5_partsIt_47 : decode cX5_partsIt 47 = .ok (.aload_n 0, 1) := by decide +kernel
theorem dX5_partsIt_48 : decode cX5_partsIt 48 = .ok (.getfield 359, 3) := by decide +kernel
theorem dX5_partsIt_51 : decode cX5_partsIt 51 = .ok (.ifCond .eq 7, 3) := by decide +kernel
theorem dX5_partsIt_54 : decode cX5_partsIt 54 = .ok (.iconst 0, 1) := by decide +kernel
theorem dX5_partsIt_55 : decode cX5_partsIt 55 = .ok (.goto 13, 3) := by decide +kernel
theorem dX5_partsIt_58 : decode cX5_partsIt 58 = .ok (.iload_n 2, 1) := by decide +kernel
theorem dX5_partsIt_59 : decode cX5_partsIt 59 = .ok (.aload_n 0, 1) := by decide +kernel
theorem dX5_partsIt_60 : decode cX5_partsIt 60 = .ok (.aload_n 0, 1) := by decide +kernel
theorem dX5_partsIt_61 : decode cX5_partsIt 61 = .ok (.getfield 338, 3) := by decide +kernel
theorem dX5_partsIt_64 : decode cX5_partsIt 64 = .ok (.invokevirtual 353, 3) := by decide +kernel
theorem dX5_partsIt_67 : decode cX5_partsIt 67 = .ok (.ixor, 1) := by decide +kernel
theorem dX5_partsIt_68 : decode cX5_partsIt 68 = .ok (.ireturn, 1) := by decide +kernel
theorem dX5_partsIt_69 : decode cX5_partsIt 69 = .ok (.aload_n 0, 1) := by decide +kernel
theorem dX5_partsIt_70 : decode cX5_partsIt 70 = .ok (.iload_n 1, 1) := by decide +kernel
theorem dX5_partsIt_71 : decode cX5_partsIt 71 = .ok (.invokevirtual 362, 3) := by decide +kernel
theorem dX5_partsIt_74 : decode cX5_partsIt 74 = .ok (.ireturn, 1) := by decide +kernel
set_option maxRecDepth 20000 in
theorem ggX5_plainFades_X5_ran : GoodIn wsX5_plainFades wsX5_ran := goodIn_r _ [5, 6, 7, 31, 32, 33, 34, 35, 36, 37, 38, 39, 40, 41, 42, 43, 44, 45, 46, 47, 48, 49, 50, 51, 52, 53, 54, 55, 56, 57, 58, 59, 60] (by decide +kernel) (by decide +kernel)
set_option maxRecDepth 20000 in
theorem gX5_plainFades_X5_ran : GoodIn wsX5_plainFades (wsV RX5 335 RX5 yX5_ran wsX5_ran) := goodIn_app (goodIn_of _ (by decide +kernel)) ggX5_plainFades_X5_ran
set_option maxRecDepth 20000 in
theorem ggX5_plainFades_X5_dripsIt : GoodIn wsX5_plainFades wsX5_dripsIt := goodIn_r _ [11, 12, 13, 1, 2, 3, 4, 5, 6, 7, 14, 15, 16, 17, 18, 19, 20, 21, 22, 23, 24, 25, 26, 27, 28, 29, 30, 31, 32, 33, 34, 35, 36, 37, 38, 39, 40, 41, 42, 43, 44, 45, 46, 47, 48, 49, 50, 51, 52, 53, 54, 55, 56, 57, 58, 59, 60] (by decide +kernel) (by decide +kernel)
set_option maxRecDepth 20000 in
theorem gX5_plainFades_X5_dripsIt : GoodIn wsX5_plainFades (wsV RX5 365 RX5 yX5_dripsIt wsX5_dripsIt) := goodIn_app (goodIn_of _ (by decide +kernel)) ggX5_plainFades_X5_dripsIt
theorem dX5_plainFades_0 : decode cX5_plainFades 0 = .ok (.aload_n 0, 1) := by decide +kernel
theorem dX5_plainFades_1 : decode cX5_plainFades 1 = .ok (.bipush 13, 2) := by decide +kernel
theorem dX5_plainFades_3 : decode cX5_plainFades 3 = .ok (.invokevirtual 335, 3) := by decide +kernel
theorem dX5_plainFades_6 : decode cX5_plainFades 6 = .ok (.aload_n 0, 1) := by decide +kernel
theorem dX5_plainFades_7 : decode cX5_plainFades 7 = .ok (.iload_n 1, 1) := by decide +kernel
theorem dX5_plainFades_8 : decode cX5_plainFades 8 = .ok (.invokevirtual 365, 3) := by decide +kernel
theorem dX5_plainFades_11 : decode cX5_plainFades 11 = .ok (.sipush 190, 3) := by decide +kernel
theorem dX5_plainFades_14 : decode cX5_plainFades 14 = .ok (.ixor, 1) := by decide +kernel
theorem dX5_plainFades_15 : decode cX5_plainFades 15 = .ok (.ireturn, 1) := by decide +kernel
set_option maxRecDepth 20000 in
theorem ggX5_fadesIt_X5_ran : GoodIn wsX5_fadesIt wsX5_ran := goodIn_r _ [7, 8, 9, 44, 45, 46, 47, 48, 49, 50, 51, 52, 53, 54, 55, 56, 57, 58, 59, 60, 61, 62, 63, 64, 65, 66, 67, 68, 69, 70, 71, 72, 73] (by decide +kernel) (by decide +kernel)
set_option maxRecDepth 20000 in
theorem gX5_fadesIt_X5_ran : GoodIn wsX5_fadesIt (wsV RX5 335 RX5 yX5_ran wsX5_ran) := goodIn_app (goodIn_of _ (by decide +kernel)) ggX5_fadesIt_X5_ran
set_option maxRecDepth 20000 in
theorem ggX5_fadesIt_X5_plainFades : GoodIn wsX5_fadesIt wsX5_plainFades := goodIn_r _ [13, 3, 4, 5, 6, 7, 8, 9, 14, 15, 16, 17, 1, 18, 19, 20, 21, 22, 23, 24, 25, 26, 27, 28, 29, 30, 31, 32, 33, 34, 2, 44, 45, 46, 47, 48, 49, 50, 51, 52, 53, 54, 55, 56, 57, 58, 59, 60, 61, 62, 63, 64, 65, 66, 67, 68, 69, 70, 71, 72, 73] (by decide +kernel) (by decide +kernel)
set_option maxRecDepth 20000 in
theorem gX5_fadesIt_X5_plainFades : GoodIn wsX5_fadesIt (wsV RX5 368 RX5 yX5_plainFades wsX5_plainFades) := goodIn_app (goodIn_of _ (by decide +kernel)) ggX5_fadesIt_X5_plainFades
set_option maxRecDepth 20000 in
theorem ggX5_fadesIt_X5_partsIt : GoodIn wsX5_fadesIt wsX5_partsIt := goodIn_r _ [38, 1, 2, 39, 3, 4, 5, 6, 7, 8, 9, 40, 41, 42, 43, 18, 23, 24, 25, 26, 27, 28, 29, 30, 31, 32, 33, 34, 44, 45, 46, 47, 48, 49, 50, 51, 52, 53, 54, 55, 56, 57, 58, 59, 60, 61, 62, 63, 64, 65, 66, 67, 68, 69, 70, 71, 72, 73] (by decide +kernel) (by decide +kernel)
set_option maxRecDepth 20000 in
theorem gX5_fadesIt_X5_partsIt : GoodIn wsX5_fadesIt (wsV RX5 371 RX5 yX5_partsIt wsX5_partsIt) := goodIn_app (goodIn_of _ (by decide +kernel)) ggX5_fadesIt_X5_partsIt
theorem dX5_fadesIt_0 : decode cX5_fadesIt 0 = .ok (.aload_n 0, 1) := by decide +kernel
theorem dX5_fadesIt_1 : decode cX5_fadesIt 1 = .ok (.getfield 344, 3) := by decide +kernel
theorem dX5_fadesIt_4 : decode cX5_fadesIt 4 = .ok (.iconst 2, 1) := by decide +kernel
theorem dX5_fadesIt_5 : decode cX5_fadesIt 5 = .ok (.if_icmp .eq 11, 3) := by decide +kernel
theorem dX5_fadesIt_8 : decode cX5_fadesIt 8 = .ok (.aload_n 0, 1) := by decide +kernel
theorem dX5_fadesIt_9 : decode cX5_fadesIt 9 = .ok (.getfield 344, 3) := by decide +kernel
theorem dX5_fadesIt_12 : decode cX5_fadesIt 12 = .ok (.iconst 4, 1) := by decide +kernel
theorem dX5_fadesIt_13 : decode cX5_fadesIt 13 = .ok (.if_icmp .ne 26, 3) := by decide +kernel
theorem dX5_fadesIt_16 : decode cX5_fadesIt 16 = .ok (.aload_n 0, 1) := by decide +kernel
theorem dX5_fadesIt_17 : decode cX5_fadesIt 17 = .ok (.bipush 31, 2) := by decide +kernel
theorem dX5_fadesIt_19 : decode cX5_fadesIt 19 = .ok (.invokevirtual 335, 3) := by decide +kernel
theorem dX5_fadesIt_22 : decode cX5_fadesIt 22 = .ok (.aload_n 0, 1) := by decide +kernel
theorem dX5_fadesIt_23 : decode cX5_fadesIt 23 = .ok (.iload_n 1, 1) := by decide +kernel
theorem dX5_fadesIt_24 : decode cX5_fadesIt 24 = .ok (.invokevirtual 368, 3) := by decide +kernel
theorem dX5_fadesIt_27 : decode cX5_fadesIt 27 = .ok (.istore_n 2, 1) := by decide +kernel
theorem dX5_fadesIt_28 : decode cX5_fadesIt 28 = .ok (.iload_n 2, 1) := by decide +kernel
theorem dX5_fadesIt_29 : decode cX5_fadesIt 29 = .ok (.aload_n 0, 1) := by decide +kernel
theorem dX5_fadesIt_30 : decode cX5_fadesIt 30 = .ok (.aload_n 0, 1) := by decide +kernel
theorem dX5_fadesIt_31 : decode cX5_fadesIt 31 = .ok (.getfield 338, 3) := by decide +kernel
theorem dX5_fadesIt_34 : decode cX5_fadesIt 34 = .ok (.invokevirtual 371, 3) := by decide +kernel
theorem dX5_fadesIt_37 : decode cX5_fadesIt 37 = .ok (.isub, 1) := by decide +kernel
theorem dX5_fadesIt_38 : decode cX5_fadesIt 38 = .ok (.ireturn, 1) := by decide +kernel
theorem dX5_fadesIt_39 : decode cX5_fadesIt 39 = .ok (.aload_n 0, 1) := by decide +kernel
theorem dX5_fadesIt_40 : decode cX5_fadesIt 40 = .ok (.getfield 344, 3) := by decide +kernel
theorem dX5_fadesIt_43 : decode cX5_fadesIt 43 = .ok (.iconst 5, 1) := by decide +kernel
theorem dX5_fadesIt_44 : decode cX5_fadesIt 44 = .ok (.if_icmp .ne 17, 3) := by decide +kernel
theorem dX5_fadesIt_47 : decode cX5_fadesIt 47 = .ok (.aload_n 0, 1) := by decide +kernel
theorem dX5_fadesIt_48 : decode cX5_fadesIt 48 = .ok (.bipush 60, 2) := by decide +kernel
theorem dX5_fadesIt_50 : decode cX5_fadesIt 50 = .ok (.invokevirtual 335, 3) := by decide +kernel
theorem dX5_fadesIt_53 : decode cX5_fadesIt 53 = .ok (.iconst 3, 1) := by decide +kernel
theorem dX5_fadesIt_54 : decode cX5_fadesIt 54 = .ok (.aload_n 0, 1) := by decide +kernel
theorem dX5_fadesIt_55 : decode cX5_fadesIt 55 = .ok (.iload_n 1, 1) := by decide +kernel
theorem dX5_fadesIt_56 : decode cX5_fadesIt 56 = .ok (.invokevirtual 368, 3) := by decide +kernel
theorem dX5_fadesIt_59 : decode cX5_fadesIt 59 = .ok (.isub, 1) := by decide +kernel
theorem dX5_fadesIt_60 : decode cX5_fadesIt 60 = .ok (.ireturn, 1) := by decide +kernel
theorem dX5_fadesIt_61 : decode cX5_fadesIt 61 = .ok (.aload_n 0, 1) := by decide +kernel
theorem dX5_fadesIt_62 : decode cX5_fadesIt 62 = .ok (.iload_n 1, 1) := by decide +kernel
theorem dX5_fadesIt_63 : decode cX5_fadesIt 63 = .ok (.invokevirtual 368, 3) := by decide +kernel
theorem dX5_fadesIt_66 : decode cX5_fadesIt 66 = .ok (.ireturn, 1) := by decide +kernel
set_option maxRecDepth 20000 in
theorem ggX5_act_X5_isShelf : GoodIn wsX5_act wsX5_isShelf := goodIn_r _ [10, 11, 12, 9, 13] (by decide +kernel) (by decide +kernel)
set_option maxRecDepth 20000 in
theorem gX5_act_X5_isShelf : GoodIn wsX5_act (va_wsS RX5 297 yX5_isShelf wsX5_isShelf) := goodIn_app (goodIn_of _ (by decide +kernel)) ggX5_act_X5_isShelf
set_option maxRecDepth 20000 in
theorem ggX5_act_X5_kindOn : GoodIn wsX5_act wsX5_kindOn := goodIn_r _ [17, 18, 3, 19, 20, 21, 9, 22, 23, 11, 12, 13, 24, 25, 26, 27, 69, 70, 71, 72, 73, 74, 75, 76, 77, 78, 79, 80, 81, 82, 83, 84, 85, 86, 87, 88, 89, 90, 91, 92, 93, 94, 95, 96, 97, 98] (by decide +kernel) (by decide +kernel)
set_option maxRecDepth 20000 in
theorem gX5_act_X5_kindOn : GoodIn wsX5_act (wsV RX5 326 RX5 yX5_kindOn wsX5_kindOn) := goodIn_app (goodIn_of _ (by decide +kernel)) ggX5_act_X5_kindOn
set_option maxRecDepth 20000 in
theorem ggX5_act_X5_in : GoodIn wsX5_act wsX5_in := goodIn_r _ [13] (by decide +kernel) (by decide +kernel)
set_option maxRecDepth 20000 in
theorem gX5_act_X5_in : GoodIn wsX5_act (va_wsS RX5 60 yX5_in wsX5_in) := goodIn_app (goodIn_of _ (by decide +kernel)) ggX5_act_X5_in
set_option maxRecDepth 20000 in
theorem ggX5_act_X5_its : GoodIn wsX5_act wsX5_its := goodIn_r _ [27, 23, 69, 70, 71, 72, 73, 74, 75, 76, 77, 78, 79, 80, 81, 82, 83, 84, 85, 86, 87, 88, 89, 90, 91, 92, 93, 94, 95, 96, 97, 98] (by decide +kernel) (by decide +kernel)
set_option maxRecDepth 20000 in
theorem gX5_act_X5_its : GoodIn wsX5_act (wsV RX5 210 RX5 yX5_its wsX5_its) := goodIn_app (goodIn_of _ (by decide +kernel)) ggX5_act_X5_its
set_option maxRecDepth 20000 in
theorem ggX5_act_X5_spraysIt : GoodIn wsX5_act wsX5_spraysIt := goodIn_r _ [31, 2, 5, 32, 33, 34, 9, 35, 36, 37, 38, 39, 1, 40, 41, 42, 43, 44, 4, 69, 70, 71, 72, 73, 74, 75, 76, 77, 78, 79, 80, 81, 82, 83, 84, 85, 86, 87, 88, 89, 90, 91, 92, 93, 94, 95, 96, 97, 98] (by decide +kernel) (by decide +kernel)
set_option maxRecDepth 20000 in
theorem gX5_act_X5_spraysIt : GoodIn wsX5_act (wsV RX5 353 RX5 yX5_spraysIt wsX5_spraysIt) := goodIn_app (goodIn_of _ (by decide +kernel)) ggX5_act_X5_spraysIt
set_option maxRecDepth 20000 in
theorem ggX5_act_X5_dripsIt : GoodIn wsX5_act wsX5_dripsIt := goodIn_r _ [48, 2, 5, 36, 37, 38, 9, 39, 1, 40, 49, 50, 51, 52, 28, 29, 30, 31, 32, 33, 34, 35, 41, 42, 43, 44, 4, 69, 70, 71, 72, 73, 74, 75, 76, 77, 78, 79, 80, 81, 82, 83, 84, 85, 86, 87, 88, 89, 90, 91, 92, 93, 94, 95, 96, 97, 98] (by decide +kernel) (by decide +kernel)
set_option maxRecDepth 20000 in
theorem gX5_act_X5_dripsIt : GoodIn wsX5_act (wsV RX5 365 RX5 yX5_dripsIt wsX5_dripsIt) := goodIn_app (goodIn_of _ (by decide +kernel)) ggX5_act_X5_dripsIt
set_option maxRecDepth 20000 in
theorem ggX5_act_X5_partsIt : GoodIn wsX5_act wsX5_partsIt := goodIn_r _ [56, 2, 4, 6, 36, 37, 38, 9, 39, 1, 40, 57, 58, 59, 60, 5, 28, 29, 30, 31, 32, 33, 34, 35, 41, 42, 43, 44, 69, 70, 71, 72, 73, 74, 75, 76, 77, 78, 79, 80, 81, 82, 83, 84, 85, 86, 87, 88, 89, 90, 91, 92, 93, 94, 95, 96, 97, 98] (by decide +kernel) (by decide +kernel)
set_option maxRecDepth 20000 in
theorem gX5_act_X5_partsIt : GoodIn wsX5_act (wsV RX5 371 RX5 yX5_partsIt wsX5_partsIt) := goodIn_app (goodIn_of _ (by decide +kernel)) ggX5_act_X5_partsIt
set_option maxRecDepth 20000 in
theorem ggX5_act_X5_fadesIt : GoodIn wsX5_act wsX5_fadesIt := goodIn_r _ [64, 2, 4, 36, 37, 38, 9, 39, 1, 40, 65, 66, 67, 68, 45, 46, 47, 48, 5, 49, 50, 51, 52, 28, 29, 30, 31, 32, 33, 34, 35, 41, 42, 43, 44, 53, 54, 55, 56, 6, 57, 58, 59, 60, 69, 70, 71, 72, 73, 74, 75, 76, 77, 78, 79, 80, 81, 82, 83, 84, 85, 86, 87, 88, 89, 90, 91, 92, 93, 94, 95, 96, 97, 98] (by decide +kernel) (by decide +kernel)
set_option maxRecDepth 20000 in
theorem gX5_act_X5_fadesIt : GoodIn wsX5_act (wsV RX5 374 RX5 yX5_fadesIt wsX5_fadesIt) := goodIn_app (goodIn_of _ (by decide +kernel)) ggX5_act_X5_fadesIt
theorem dX5_act_0 : decode cX5_act 0 = .ok (.aload_n 0, 1) := by decide +kernel
theorem dX5_act_1 : decode cX5_act 1 = .ok (.iconst 0, 1) := by decide +kernel
theorem dX5_act_2 : decode cX5_act 2 = .ok (.putfield 332, 3) := by decide +kernel
theorem dX5_act_5 : decode cX5_act 5 = .ok (.iload_n 1, 1) := by decide +kernel
theorem dX5_act_6 : decode cX5_act 6 = .ok (.invokestatic 297, 3) := by decide +kernel
theorem dX5_act_9 : decode cX5_act 9 = .ok (.ifCond .eq 11, 3) := by decide +kernel
theorem dX5_act_12 : decode cX5_act 12 = .ok (.aload_n 0, 1) := by decide +kernel
theorem dX5_act_13 : decode cX5_act 13 = .ok (.iload_n 1, 1) := by decide +kernel
theorem dX5_act_14 : decode cX5_act 14 = .ok (.invokevirtual 326, 3) := by decide +kernel
theorem dX5_act_17 : decode cX5_act 17 = .ok (.goto 4, 3) := by decide +kernel
theorem dX5_act_20 : decode cX5_act 20 = .ok (.iconst (-1), 1) := by decide +kernel
theorem dX5_act_21 : decode cX5_act 21 = .ok (.istore 4, 2) := by decide +kernel
theorem dX5_act_23 : decode cX5_act 23 = .ok (.iload_n 2, 1) := by decide +kernel
theorem dX5_act_24 : decode cX5_act 24 = .ok (.iconst 0, 1) := by decide +kernel
theorem dX5_act_25 : decode cX5_act 25 = .ok (.iconst 3, 1) := by decide +kernel
theorem dX5_act_26 : decode cX5_act 26 = .ok (.invokestatic 60, 3) := by decide +kernel
theorem dX5_act_29 : decode cX5_act 29 = .ok (.ifCond .eq 13, 3) := by decide +kernel
theorem dX5_act_32 : decode cX5_act 32 = .ok (.iload 4, 2) := by decide +kernel
theorem dX5_act_34 : decode cX5_act 34 = .ok (.iconst 0, 1) := by decide +kernel
theorem dX5_act_35 : decode cX5_act 35 = .ok (.iconst 5, 1) := by decide +kernel
theorem dX5_act_36 : decode cX5_act 36 = .ok (.invokestatic 60, 3) := by decide +kernel
theorem dX5_act_39 : decode cX5_act 39 = .ok (.ifCond .ne 5, 3) := by decide +kernel
theorem dX5_act_42 : decode cX5_act 42 = .ok (.iconst 0, 1) := by decide +kernel
theorem dX5_act_43 : decode cX5_act 43 = .ok (.ireturn, 1) := by decide +kernel
theorem dX5_act_44 : decode cX5_act 44 = .ok (.aload_n 0, 1) := by decide +kernel
theorem dX5_act_45 : decode cX5_act 45 = .ok (.iload 4, 2) := by decide +kernel
theorem dX5_act_47 : decode cX5_act 47 = .ok (.putfield 344, 3) := by decide +kernel
theorem dX5_act_50 : decode cX5_act 50 = .ok (.aload_n 0, 1) := by decide +kernel
theorem dX5_act_51 : decode cX5_act 51 = .ok (.aload_n 0, 1) := by decide +kernel
theorem dX5_act_52 : decode cX5_act 52 = .ok (.getfield 47, 3) := by decide +kernel
theorem dX5_act_55 : decode cX5_act 55 = .ok (.iload_n 1, 1) := by decide +kernel
theorem dX5_act_56 : decode cX5_act 56 = .ok (.iaload, 1) := by decide +kernel
theorem dX5_act_57 : decode cX5_act 57 = .ok (.putfield 338, 3) := by decide +kernel
theorem dX5_act_60 : decode cX5_act 60 = .ok (.aload_n 0, 1) := by decide +kernel
theorem dX5_act_61 : decode cX5_act 61 = .ok (.aload_n 0, 1) := by decide +kernel
theorem dX5_act_62 : decode cX5_act 62 = .ok (.aload_n 0, 1) := by decide +kernel
theorem dX5_act_63 : decode cX5_act 63 = .ok (.getfield 338, 3) := by decide +kernel
theorem dX5_act_66 : decode cX5_act 66 = .ok (.iconst 1, 1) := by decide +kernel
theorem dX5_act_67 : decode cX5_act 67 = .ok (.invokevirtual 210, 3) := by decide +kernel
theorem dX5_act_70 : decode cX5_act 70 = .ok (.putfield 350, 3) := by decide +kernel
theorem dX5_act_73 : decode cX5_act 73 = .ok (.aload_n 0, 1) := by decide +kernel
theorem dX5_act_74 : decode cX5_act 74 = .ok (.iconst 0, 1) := by decide +kernel
theorem dX5_act_75 : decode cX5_act 75 = .ok (.putfield 359, 3) := by decide +kernel
theorem dX5_act_78 : decode cX5_act 78 = .ok (.iload_n 2, 1) := by decide +kernel
theorem dX5_act_79 : decode cX5_act 79 = .ok (.ifCond .ne 11, 3) := by decide +kernel
theorem dX5_act_82 : decode cX5_act 82 = .ok (.aload_n 0, 1) := by decide +kernel
theorem dX5_act_83 : decode cX5_act 83 = .ok (.iload_n 3, 1) := by decide +kernel
theorem dX5_act_84 : decode cX5_act 84 = .ok (.invokevirtual 353, 3) := by decide +kernel
theorem dX5_act_87 : decode cX5_act 87 = .ok (.goto 34, 3) := by decide +kernel
theorem dX5_act_90 : decode cX5_act 90 = .ok (.iload_n 2, 1) := by decide +kernel
theorem dX5_act_91 : decode cX5_act 91 = .ok (.iconst 1, 1) := by decide +kernel
theorem dX5_act_92 : decode cX5_act 92 = .ok (.if_icmp .ne 11, 3) := by decide +kernel
theorem dX5_act_95 : decode cX5_act 95 = .ok (.aload_n 0, 1) := by decide +kernel
theorem dX5_act_96 : decode cX5_act 96 = .ok (.iload_n 3, 1) := by decide +kernel
theorem dX5_act_97 : decode cX5_act 97 = .ok (.invokevirtual 365, 3) := by decide +kernel
theorem dX5_act_100 : decode cX5_act 100 = .ok (.goto 21, 3) := by decide +kernel
theorem dX5_act_103 : decode cX5_act 103 = .ok (.iload_n 2, 1) := by decide +kernel
theorem dX5_act_104 : decode cX5_act 104 = .ok (.iconst 2, 1) := by decide +kernel
theorem dX5_act_105 : decode cX5_act 105 = .ok (.if_icmp .ne 11, 3) := by decide +kernel
theorem dX5_act_108 : decode cX5_act 108 = .ok (.aload_n 0, 1) := by decide +kernel
theorem dX5_act_109 : decode cX5_act 109 = .ok (.iload_n 3, 1) := by decide +kernel
theorem dX5_act_110 : decode cX5_act 110 = .ok (.invokevirtual 371, 3) := by decide +kernel
theorem dX5_act_113 : decode cX5_act 113 = .ok (.goto 8, 3) := by decide +kernel
theorem dX5_act_116 : decode cX5_act 116 = .ok (.aload_n 0, 1) := by decide +kernel
theorem dX5_act_117 : decode cX5_act 117 = .ok (.iload_n 3, 1) := by decide +kernel
theorem dX5_act_118 : decode cX5_act 118 = .ok (.invokevirtual 374, 3) := by decide +kernel
theorem dX5_act_121 : decode cX5_act 121 = .ok (.istore 5, 2) := by decide +kernel
theorem dX5_act_123 : decode cX5_act 123 = .ok (.aload_n 0, 1) := by decide +kernel
theorem dX5_act_124 : decode cX5_act 124 = .ok (.getfield 359, 3) := by decide +kernel
theorem dX5_act_127 : decode cX5_act 127 = .ok (.ifCond .eq 8, 3) := by decide +kernel
theorem dX5_act_130 : decode cX5_act 130 = .ok (.bipush (-15), 2) := by decide +kernel
theorem dX5_act_132 : decode cX5_act 132 = .ok (.goto 5, 3) := by decide +kernel
theorem dX5_act_135 : decode cX5_act 135 = .ok (.iload 5, 2) := by decide +kernel
theorem dX5_act_137 : decode cX5_act 137 = .ok (.ireturn, 1) := by decide +kernel
set_option maxRecDepth 20000 in
theorem ggX5_trace_X5_in : GoodIn wsX5_trace wsX5_in := goodIn_r _ [6] (by decide +kernel) (by decide +kernel)
set_option maxRecDepth 20000 in
theorem gX5_trace_X5_in : GoodIn wsX5_trace (va_wsS RX5 60 yX5_in wsX5_in) := goodIn_app (goodIn_of _ (by decide +kernel)) ggX5_trace_X5_in
theorem dX5_trace_0 : decode cX5_trace 0 = .ok (.iload_n 1, 1) := by decide +kernel
theorem dX5_trace_1 : decode cX5_trace 1 = .ok (.iconst 0, 1) := by decide +kernel
theorem dX5_trace_2 : decode cX5_trace 2 = .ok (.aload_n 0, 1) := by decide +kernel
theorem dX5_trace_3 : decode cX5_trace 3 = .ok (.getfield 332, 3) := by decide +kernel
theorem dX5_trace_6 : decode cX5_trace 6 = .ok (.iconst 1, 1) := by decide +kernel
theorem dX5_trace_7 : decode cX5_trace 7 = .ok (.isub, 1) := by decide +kernel
theorem dX5_trace_8 : decode cX5_trace 8 = .ok (.invokestatic 60, 3) := by decide +kernel
theorem dX5_trace_11 : decode cX5_trace 11 = .ok (.ifCond .eq 12, 3) := by decide +kernel
theorem dX5_trace_14 : decode cX5_trace 14 = .ok (.aload_n 0, 1) := by decide +kernel
theorem dX5_trace_15 : decode cX5_trace 15 = .ok (.getfield 53, 3) := by decide +kernel
theorem dX5_trace_18 : decode cX5_trace 18 = .ok (.iload_n 1, 1) := by decide +kernel
theorem dX5_trace_19 : decode cX5_trace 19 = .ok (.iaload, 1) := by decide +kernel
theorem dX5_trace_20 : decode cX5_trace 20 = .ok (.goto 5, 3) := by decide +kernel
theorem dX5_trace_23 : decode cX5_trace 23 = .ok (.bipush (-3), 2) := by decide +kernel
theorem dX5_trace_25 : decode cX5_trace 25 = .ok (.ireturn, 1) := by decide +kernel
set_option maxRecDepth 20000 in
theorem ggX5_seenWalls_X5_looks : GoodIn wsX5_seenWalls wsX5_looks := goodIn_r _ [5, 6, 7, 8, 9, 4, 10, 11, 12, 13, 14, 15, 16, 17, 18, 19, 20, 21, 22, 23, 24, 25, 26, 27, 28, 29, 30, 31, 32, 33, 34, 35, 36, 37, 38, 39, 40] (by decide +kernel) (by decide +kernel)
set_option maxRecDepth 20000 in
theorem gX5_seenWalls_X5_looks : GoodIn wsX5_seenWalls (wsV RX5 236 RX5 yX5_looks wsX5_looks) := goodIn_app (goodIn_of _ (by decide +kernel)) ggX5_seenWalls_X5_looks
theorem dX5_seenWalls_0 : decode cX5_seenWalls 0 = .ok (.iconst 0, 1) := by decide +kernel
theorem dX5_seenWalls_1 : decode cX5_seenWalls 1 = .ok (.istore_n 1, 1) := by decide +kernel
theorem dX5_seenWalls_2 : decode cX5_seenWalls 2 = .ok (.iconst 0, 1) := by decide +kernel
theorem dX5_seenWalls_3 : decode cX5_seenWalls 3 = .ok (.istore_n 2, 1) := by decide +kernel
theorem dX5_seenWalls_4 : decode cX5_seenWalls 4 = .ok (.iload_n 2, 1) := by decide +kernel
theorem dX5_seenWalls_5 : decode cX5_seenWalls 5 = .ok (.bipush 10, 2) := by decide +kernel
theorem dX5_seenWalls_7 : decode cX5_seenWalls 7 = .ok (.if_icmp .ge 25, 3) := by decide +kernel
theorem dX5_seenWalls_10 : decode cX5_seenWalls 10 = .ok (.iload_n 1, 1) := by decide +kernel
theorem dX5_seenWalls_11 : decode cX5_seenWalls 11 = .ok (.aload_n 0, 1) := by decide +kernel
theorem dX5_seenWalls_12 : decode cX5_seenWalls 12 = .ok (.iload_n 2, 1) := by decide +kernel
theorem dX5_seenWalls_13 : decode cX5_seenWalls 13 = .ok (.invokevirtual 236, 3) := by decide +kernel
theorem dX5_seenWalls_16 : decode cX5_seenWalls 16 = .ok (.ifCond .le 7, 3) := by decide +kernel
theorem dX5_seenWalls_19 : decode cX5_seenWalls 19 = .ok (.iconst 1, 1) := by decide +kernel
theorem dX5_seenWalls_20 : decode cX5_seenWalls 20 = .ok (.goto 4, 3) := by decide +kernel
theorem dX5_seenWalls_23 : decode cX5_seenWalls 23 = .ok (.iconst 0, 1) := by decide +kernel
theorem dX5_seenWalls_24 : decode cX5_seenWalls 24 = .ok (.iadd, 1) := by decide +kernel
theorem dX5_seenWalls_25 : decode cX5_seenWalls 25 = .ok (.istore_n 1, 1) := by decide +kernel
theorem dX5_seenWalls_26 : decode cX5_seenWalls 26 = .ok (.iinc 2 1, 3) := by decide +kernel
theorem dX5_seenWalls_29 : decode cX5_seenWalls 29 = .ok (.goto (-25), 3) := by decide +kernel
theorem dX5_seenWalls_32 : decode cX5_seenWalls 32 = .ok (.iload_n 1, 1) := by decide +kernel
theorem dX5_seenWalls_33 : decode cX5_seenWalls 33 = .ok (.ireturn, 1) := by decide +kernel
set_option maxRecDepth 20000 in
theorem ggX5_many_X5_goneSet : GoodIn wsX5_many wsX5_goneSet := goodIn_r _ [9, 10, 11, 12, 8, 13, 1, 14, 15, 16, 17, 33, 34, 35, 36, 37, 38, 39, 40, 41, 42, 43, 44, 45, 46, 47, 48, 49, 50, 51, 52, 53, 54, 55, 56, 57, 58, 59, 60, 61, 62] (by decide +kernel) (by decide +kernel)
set_option maxRecDepth 20000 in
theorem gX5_many_X5_goneSet : GoodIn wsX5_many (wsV RX5 272 RX5 yX5_goneSet wsX5_goneSet) := goodIn_app (goodIn_of _ (by decide +kernel)) ggX5_many_X5_goneSet
set_option maxRecDepth 20000 in
theorem ggX5_many_X5_ones : GoodIn wsX5_many wsX5_ones := goodIn_r _ [20] (by decide +kernel) (by decide +kernel)
set_option maxRecDepth 20000 in
theorem gX5_many_X5_ones : GoodIn wsX5_many (va_wsS RX5 216 yX5_ones wsX5_ones) := goodIn_app (goodIn_of _ (by decide +kernel)) ggX5_many_X5_ones
set_option maxRecDepth 20000 in
theorem ggX5_many_X5_seenWalls : GoodIn wsX5_many wsX5_seenWalls := goodIn_r _ [24, 25, 26, 27, 8, 28, 1, 14, 15, 16, 17, 33, 34, 35, 36, 37, 38, 39, 40, 41, 42, 43, 44, 45, 46, 47, 48, 49, 50, 51, 52, 53, 54, 55, 56, 57, 58, 59, 60, 61, 62] (by decide +kernel) (by decide +kernel)
set_option maxRecDepth 20000 in
theorem gX5_many_X5_seenWalls : GoodIn wsX5_many (wsV RX5 377 RX5 yX5_seenWalls wsX5_seenWalls) := goodIn_app (goodIn_of _ (by decide +kernel)) ggX5_many_X5_seenWalls
set_option maxRecDepth 20000 in
theorem ggX5_many_X5_handsOfAll : GoodIn wsX5_many wsX5_handsOfAll := goodIn_r _ [32, 1, 14, 15, 16, 8, 17, 18, 19, 20, 33, 34, 35, 36, 37, 38, 39, 40, 41, 42, 43, 44, 45, 46, 47, 48, 49, 50, 51, 52, 53, 54, 55, 56, 57, 58, 59, 60, 61, 62] (by decide +kernel) (by decide +kernel)
set_option maxRecDepth 20000 in
theorem gX5_many_X5_handsOfAll : GoodIn wsX5_many (wsV RX5 291 RX5 yX5_handsOfAll wsX5_handsOfAll) := goodIn_app (goodIn_of _ (by decide +kernel)) ggX5_many_X5_handsOfAll
theorem dX5_many_0 : decode cX5_many 0 = .ok (.iload_n 1, 1) := by decide +kernel
theorem dX5_many_1 : decode cX5_many 1 = .ok (.tableswitch 84 0 6 #[43, 51, 59, 64, 69, 74, 79], 43) := by decide +kernel
theorem dX5_many_44 : decode cX5_many 44 = .ok (.aload_n 0, 1) := by decide +kernel
theorem dX5_many_45 : decode cX5_many 45 = .ok (.getfield 7, 3) := by decide +kernel
theorem dX5_many_48 : decode cX5_many 48 = .ok (.bipush 6, 2) := by decide +kernel
theorem dX5_many_50 : decode cX5_many 50 = .ok (.iaload, 1) := by decide +kernel
theorem dX5_many_51 : decode cX5_many 51 = .ok (.ireturn, 1) := by decide +kernel
theorem dX5_many_52 : decode cX5_many 52 = .ok (.aload_n 0, 1) := by decide +kernel
theorem dX5_many_53 : decode cX5_many 53 = .ok (.invokevirtual 272, 3) := by decide +kernel
theorem dX5_many_56 : decode cX5_many 56 = .ok (.invokestatic 216, 3) := by decide +kernel
theorem dX5_many_59 : decode cX5_many 59 = .ok (.ireturn, 1) := by decide +kernel
theorem dX5_many_60 : decode cX5_many 60 = .ok (.aload_n 0, 1) := by decide +kernel
theorem dX5_many_61 : decode cX5_many 61 = .ok (.invokevirtual 377, 3) := by decide +kernel
theorem dX5_many_64 : decode cX5_many 64 = .ok (.ireturn, 1) := by decide +kernel
theorem dX5_many_65 : decode cX5_many 65 = .ok (.aload_n 0, 1) := by decide +kernel
theorem dX5_many_66 : decode cX5_many 66 = .ok (.invokevirtual 291, 3) := by decide +kernel
theorem dX5_many_69 : decode cX5_many 69 = .ok (.ireturn, 1) := by decide +kernel
theorem dX5_many_70 : decode cX5_many 70 = .ok (.aload_n 0, 1) := by decide +kernel
theorem dX5_many_71 : decode cX5_many 71 = .ok (.getfield 190, 3) := by decide +kernel
theorem dX5_many_74 : decode cX5_many 74 = .ok (.ireturn, 1) := by decide +kernel
theorem dX5_many_75 : decode cX5_many 75 = .ok (.aload_n 0, 1) := by decide +kernel
theorem dX5_many_76 : decode cX5_many 76 = .ok (.getfield 64, 3) := by decide +kernel
theorem dX5_many_79 : decode cX5_many 79 = .ok (.ireturn, 1) := by decide +kernel
theorem dX5_many_80 : decode cX5_many 80 = .ok (.aload_n 0, 1) := by decide +kernel
theorem dX5_many_81 : decode cX5_many 81 = .ok (.getfield 332, 3) := by decide +kernel
theorem dX5_many_84 : decode cX5_many 84 = .ok (.ireturn, 1) := by decide +kernel
theorem dX5_many_85 : decode cX5_many 85 = .ok (.iconst (-1), 1) := by decide +kernel
theorem dX5_many_86 : decode cX5_many 86 = .ok (.ireturn, 1) := by decide +kernel
set_option maxRecDepth 20000 in
theorem ggX5_keep_X5_moveAll : GoodIn wsX5_keep wsX5_moveAll := goodIn_r _ [7] (by decide +kernel) (by decide +kernel)
set_option maxRecDepth 20000 in
theorem gX5_keep_X5_moveAll : GoodIn wsX5_keep (va_wsS RX5 186 yX5_moveAll wsX5_moveAll) := goodIn_app (goodIn_of _ (by decide +kernel)) ggX5_keep_X5_moveAll
theorem dX5_keep_0 : decode cX5_keep 0 = .ok (.aload_n 0, 1) := by decide +kernel
theorem dX5_keep_1 : decode cX5_keep 1 = .ok (.getfield 7, 3) := by decide +kernel
theorem dX5_keep_4 : decode cX5_keep 4 = .ok (.aload_n 0, 1) := by decide +kernel
theorem dX5_keep_5 : decode cX5_keep 5 = .ok (.getfield 16, 3) := by decide +kernel
theorem dX5_keep_8 : decode cX5_keep 8 = .ok (.invokestatic 186, 3) := by decide +kernel
theorem dX5_keep_11 : decode cX5_keep 11 = .ok (.aload_n 0, 1) := by decide +kernel
theorem dX5_keep_12 : decode cX5_keep 12 = .ok (.iconst 1, 1) := by decide +kernel
theorem dX5_keep_13 : decode cX5_keep 13 = .ok (.putfield 380, 3) := by decide +kernel
theorem dX5_keep_16 : decode cX5_keep 16 = .ok (.iconst 1, 1) := by decide +kernel
theorem dX5_keep_17 : decode cX5_keep 17 = .ok (.ireturn, 1) := by decide +kernel
set_option maxRecDepth 20000 in
theorem ggX5_again_X5_moveAll : GoodIn wsX5_again wsX5_moveAll := goodIn_r _ [7] (by decide +kernel) (by decide +kernel)
set_option maxRecDepth 20000 in
theorem gX5_again_X5_moveAll : GoodIn wsX5_again (va_wsS RX5 186 yX5_moveAll wsX5_moveAll) := goodIn_app (goodIn_of _ (by decide +kernel)) ggX5_again_X5_moveAll
theorem dX5_again_0 : decode cX5_again 0 = .ok (.aload_n 0, 1) := by decide +kernel
theorem dX5_again_1 : decode cX5_again 1 = .ok (.getfield 380, 3) := by decide +kernel
theorem dX5_again_4 : decode cX5_again 4 = .ok (.ifCond .ne 6, 3) := by decide +kernel
theorem dX5_again_7 : decode cX5_again 7 = .ok (.bipush (-3), 2) := by decide +kernel
theorem dX5_again_9 : decode cX5_again 9 = .ok (.ireturn, 1) := by decide +kernel
theorem dX5_again_10 : decode cX5_again 10 = .ok (.aload_n 0, 1) := by decide +kernel
theorem dX5_again_11 : decode cX5_again 11 = .ok (.getfield 16, 3) := by decide +kernel
theorem dX5_again_14 : decode cX5_again 14 = .ok (.aload_n 0, 1) := by decide +kernel
theorem dX5_again_15 : decode cX5_again 15 = .ok (.getfield 7, 3) := by decide +kernel
theorem dX5_again_18 : decode cX5_again 18 = .ok (.invokestatic 186, 3) := by decide +kernel
theorem dX5_again_21 : decode cX5_again 21 = .ok (.aload_n 0, 1) := by decide +kernel
theorem dX5_again_22 : decode cX5_again 22 = .ok (.getfield 7, 3) := by decide +kernel
theorem dX5_again_25 : decode cX5_again 25 = .ok (.bipush 6, 2) := by decide +kernel
theorem dX5_again_27 : decode cX5_again 27 = .ok (.iaload, 1) := by decide +kernel
theorem dX5_again_28 : decode cX5_again 28 = .ok (.ireturn, 1) := by decide +kernel
theorem dJ6_bitCount_0f7a4_0 : decode cJ6_bitCount_0f7a4 0 = .ok (.iload_n 0, 1) := by decide +kernel
theorem dJ6_bitCount_0f7a4_1 : decode cJ6_bitCount_0f7a4 1 = .ok (.iload_n 0, 1) := by decide +kernel
theorem dJ6_bitCount_0f7a4_2 : decode cJ6_bitCount_0f7a4 2 = .ok (.iconst 1, 1) := by decide +kernel
theorem dJ6_bitCount_0f7a4_3 : decode cJ6_bitCount_0f7a4 3 = .ok (.iushr, 1) := by decide +kernel
theorem dJ6_bitCount_0f7a4_4 : decode cJ6_bitCount_0f7a4 4 = .ok (.ldc_w 265, 3) := by decide +kernel
theorem dJ6_bitCount_0f7a4_7 : decode cJ6_bitCount_0f7a4 7 = .ok (.iand, 1) := by decide +kernel
theorem dJ6_bitCount_0f7a4_8 : decode cJ6_bitCount_0f7a4 8 = .ok (.isub, 1) := by decide +kernel
theorem dJ6_bitCount_0f7a4_9 : decode cJ6_bitCount_0f7a4 9 = .ok (.istore_n 0, 1) := by decide +kernel
theorem dJ6_bitCount_0f7a4_10 : decode cJ6_bitCount_0f7a4 10 = .ok (.iload_n 0, 1) := by decide +kernel
theorem dJ6_bitCount_0f7a4_11 : decode cJ6_bitCount_0f7a4 11 = .ok (.ldc_w 266, 3) := by decide +kernel
theorem dJ6_bitCount_0f7a4_14 : decode cJ6_bitCount_0f7a4 14 = .ok (.iand, 1) := by decide +kernel
theorem dJ6_bitCount_0f7a4_15 : decode cJ6_bitCount_0f7a4 15 = .ok (.iload_n 0, 1) := by decide +kernel
theorem dJ6_bitCount_0f7a4_16 : decode cJ6_bitCount_0f7a4 16 = .ok (.iconst 2, 1) := by decide +kernel
theorem dJ6_bitCount_0f7a4_17 : decode cJ6_bitCount_0f7a4 17 = .ok (.iushr, 1) := by decide +kernel
theorem dJ6_bitCount_0f7a4_18 : decode cJ6_bitCount_0f7a4 18 = .ok (.ldc_w 266, 3) := by decide +kernel
theorem dJ6_bitCount_0f7a4_21 : decode cJ6_bitCount_0f7a4 21 = .ok (.iand, 1) := by decide +kernel
theorem dJ6_bitCount_0f7a4_22 : decode cJ6_bitCount_0f7a4 22 = .ok (.iadd, 1) := by decide +kernel
theorem dJ6_bitCount_0f7a4_23 : decode cJ6_bitCount_0f7a4 23 = .ok (.istore_n 0, 1) := by decide +kernel
theorem dJ6_bitCount_0f7a4_24 : decode cJ6_bitCount_0f7a4 24 = .ok (.iload_n 0, 1) := by decide +kernel
theorem dJ6_bitCount_0f7a4_25 : decode cJ6_bitCount_0f7a4 25 = .ok (.iload_n 0, 1) := by decide +kernel
theorem dJ6_bitCount_0f7a4_26 : decode cJ6_bitCount_0f7a4 26 = .ok (.iconst 4, 1) := by decide +kernel
theorem dJ6_bitCount_0f7a4_27 : decode cJ6_bitCount_0f7a4 27 = .ok (.iushr, 1) := by decide +kernel
theorem dJ6_bitCount_0f7a4_28 : decode cJ6_bitCount_0f7a4 28 = .ok (.iadd, 1) := by decide +kernel
theorem dJ6_bitCount_0f7a4_29 : decode cJ6_bitCount_0f7a4 29 = .ok (.ldc_w 267, 3) := by decide +kernel
theorem dJ6_bitCount_0f7a4_32 : decode cJ6_bitCount_0f7a4 32 = .ok (.iand, 1) := by decide +kernel
theorem dJ6_bitCount_0f7a4_33 : decode cJ6_bitCount_0f7a4 33 = .ok (.istore_n 0, 1) := by decide +kernel
theorem dJ6_bitCount_0f7a4_34 : decode cJ6_bitCount_0f7a4 34 = .ok (.iload_n 0, 1) := by decide +kernel
theorem dJ6_bitCount_0f7a4_35 : decode cJ6_bitCount_0f7a4 35 = .ok (.iload_n 0, 1) := by decide +kernel
theorem dJ6_bitCount_0f7a4_36 : decode cJ6_bitCount_0f7a4 36 = .ok (.bipush 8, 2) := by decide +kernel
theorem dJ6_bitCount_0f7a4_38 : decode cJ6_bitCount_0f7a4 38 = .ok (.iushr, 1) := by decide +kernel
theorem dJ6_bitCount_0f7a4_39 : decode cJ6_bitCount_0f7a4 39 = .ok (.iadd, 1) := by decide +kernel
theorem dJ6_bitCount_0f7a4_40 : decode cJ6_bitCount_0f7a4 40 = .ok (.istore_n 0, 1) := by decide +kernel
theorem dJ6_bitCount_0f7a4_41 : decode cJ6_bitCount_0f7a4 41 = .ok (.iload_n 0, 1) := by decide +kernel
theorem dJ6_bitCount_0f7a4_42 : decode cJ6_bitCount_0f7a4 42 = .ok (.iload_n 0, 1) := by decide +kernel
theorem dJ6_bitCount_0f7a4_43 : decode cJ6_bitCount_0f7a4 43 = .ok (.bipush 16, 2) := by decide +kernel
theorem dJ6_bitCount_0f7a4_45 : decode cJ6_bitCount_0f7a4 45 = .ok (.iushr, 1) := by decide +kernel
theorem dJ6_bitCount_0f7a4_46 : decode cJ6_bitCount_0f7a4 46 = .ok (.iadd, 1) := by decide +kernel
theorem dJ6_bitCount_0f7a4_47 : decode cJ6_bitCount_0f7a4 47 = .ok (.istore_n 0, 1) := by decide +kernel
theorem dJ6_bitCount_0f7a4_48 : decode cJ6_bitCount_0f7a4 48 = .ok (.iload_n 0, 1) := by decide +kernel
theorem dJ6_bitCount_0f7a4_49 : decode cJ6_bitCount_0f7a4 49 = .ok (.bipush 63, 2) := by decide +kernel
theorem dJ6_bitCount_0f7a4_51 : decode cJ6_bitCount_0f7a4 51 = .ok (.iand, 1) := by decide +kernel
theorem dJ6_bitCount_0f7a4_52 : decode cJ6_bitCount_0f7a4 52 = .ok (.ireturn, 1) := by decide +kernel
theorem dJ9_max_7cf53_0 : decode cJ9_max_7cf53 0 = .ok (.iload_n 0, 1) := by decide +kernel
theorem dJ9_max_7cf53_1 : decode cJ9_max_7cf53 1 = .ok (.iload_n 1, 1) := by decide +kernel
theorem dJ9_max_7cf53_2 : decode cJ9_max_7cf53 2 = .ok (.if_icmp .lt 7, 3) := by decide +kernel
theorem dJ9_max_7cf53_5 : decode cJ9_max_7cf53 5 = .ok (.iload_n 0, 1) := by decide +kernel
theorem dJ9_max_7cf53_6 : decode cJ9_max_7cf53 6 = .ok (.goto 4, 3) := by decide +kernel
theorem dJ9_max_7cf53_9 : decode cJ9_max_7cf53 9 = .ok (.iload_n 1, 1) := by decide +kernel
theorem dJ9_max_7cf53_10 : decode cJ9_max_7cf53 10 = .ok (.ireturn, 1) := by decide +kernel
theorem dJ9_min_7cf53_0 : decode cJ9_min_7cf53 0 = .ok (.iload_n 0, 1) := by decide +kernel
theorem dJ9_min_7cf53_1 : decode cJ9_min_7cf53 1 = .ok (.iload_n 1, 1) := by decide +kernel
theorem dJ9_min_7cf53_2 : decode cJ9_min_7cf53 2 = .ok (.if_icmp .gt 7, 3) := by decide +kernel
theorem dJ9_min_7cf53_5 : decode cJ9_min_7cf53 5 = .ok (.iload_n 0, 1) := by decide +kernel
theorem dJ9_min_7cf53_6 : decode cJ9_min_7cf53 6 = .ok (.goto 4, 3) := by decide +kernel
theorem dJ9_min_7cf53_9 : decode cJ9_min_7cf53 9 = .ok (.iload_n 1, 1) := by decide +kernel
theorem dJ9_min_7cf53_10 : decode cJ9_min_7cf53 10 = .ok (.ireturn, 1) := by decide +kernel
set_option maxRecDepth 20000 in
theorem ggJ0_length_8abf5_J0_coder_7d493 : GoodIn wsJ0_length_8abf5 wsJ0_coder_7d493 := goodIn_r _ [6, 7, 8] (by decide +kernel) (by decide +kernel)
set_option maxRecDepth 20000 in
theorem gJ0_length_8abf5_J0_coder_7d493 : GoodIn wsJ0_length_8abf5 (wsV RJ0 335 RJ0 yJ0_coder_7d493 wsJ0_coder_7d493) := goodIn_app (goodIn_of _ (by decide +kernel)) ggJ0_length_8abf5_J0_coder_7d493
theorem dJ0_length_8abf5_0 : decode cJ0_length_8abf5 0 = .ok (.aload_n 0, 1) := by decide +kernel
theorem dJ0_length_8abf5_1 : decode cJ0_length_8abf5 1 = .ok (.getfield 9, 3) := by decide +kernel
theorem dJ0_length_8abf5_4 : decode cJ0_length_8abf5 4 = .ok (.arraylength, 1) := by decide +kernel
theorem dJ0_length_8abf5_5 : decode cJ0_length_8abf5 5 = .ok (.aload_n 0, 1) := by decide +kernel
theorem dJ0_length_8abf5_6 : decode cJ0_length_8abf5 6 = .ok (.invokevirtual 335, 3) := by decide +kernel
theorem dJ0_length_8abf5_9 : decode cJ0_length_8abf5 9 = .ok (.ishr, 1) := by decide +kernel
theorem dJ0_length_8abf5_10 : decode cJ0_length_8abf5 10 = .ok (.ireturn, 1) := by decide +kernel
set_option maxRecDepth 20000 in
theorem ggJ0_charAt_5068e_J0_isLatin1_aae02 : GoodIn wsJ0_charAt_5068e wsJ0_isLatin1_aae02 := goodIn_r _ [6, 7, 8] (by decide +kernel) (by decide +kernel)
set_option maxRecDepth 20000 in
theorem gJ0_charAt_5068e_J0_isLatin1_aae02 : GoodIn wsJ0_charAt_5068e (wsV RJ0 492 RJ0 yJ0_isLatin1_aae02 wsJ0_isLatin1_aae02) := goodIn_app (goodIn_of _ (by decide +kernel)) ggJ0_charAt_5068e_J0_isLatin1_aae02
set_option maxRecDepth 20000 in
theorem ggJ0_charAt_5068e_J1_charAt_3b067 : GoodIn wsJ0_charAt_5068e wsJ1_charAt_3b067 := goodIn_r _ [12, 13, 14, 5, 15, 16, 17, 18, 19, 20] (by decide +kernel) (by decide +kernel)
set_option maxRecDepth 20000 in
theorem gJ0_charAt_5068e_J1_charAt_3b067 : GoodIn wsJ0_charAt_5068e (va_wsS RJ0 495 yJ1_charAt_3b067 wsJ1_charAt_3b067) := goodIn_app (goodIn_of _ (by decide +kernel)) ggJ0_charAt_5068e_J1_charAt_3b067
set_option maxRecDepth 20000 in
theorem ggJ0_charAt_5068e_J2_charAt_3b067 : GoodIn wsJ0_charAt_5068e wsJ2_charAt_3b067 := goodIn_r _ [24, 25, 26, 23, 27, 28, 29, 30, 31, 14, 5, 15, 16, 17, 18, 19, 20, 32, 33, 34, 35, 36, 37] (by decide +kernel) (by decide +kernel)
set_option maxRecDepth 20000 in
theorem gJ0_charAt_5068e_J2_charAt_3b067 : GoodIn wsJ0_charAt_5068e (va_wsS RJ0 498 yJ2_charAt_3b067 wsJ2_charAt_3b067) := goodIn_app (goodIn_of _ (by decide +kernel)) ggJ0_charAt_5068e_J2_charAt_3b067
theorem dJ0_charAt_5068e_0 : decode cJ0_charAt_5068e 0 = .ok (.aload_n 0, 1) := by decide +kernel
theorem dJ0_charAt_5068e_1 : decode cJ0_charAt_5068e 1 = .ok (.invokevirtual 492, 3) := by decide +kernel
theorem dJ0_charAt_5068e_4 : decode cJ0_charAt_5068e 4 = .ok (.ifCond .eq 12, 3) := by decide +kernel
theorem dJ0_charAt_5068e_7 : decode cJ0_charAt_5068e 7 = .ok (.aload_n 0, 1) := by decide +kernel
theorem dJ0_charAt_5068e_8 : decode cJ0_charAt_5068e 8 = .ok (.getfield 9, 3) := by decide +kernel
theorem dJ0_charAt_5068e_11 : decode cJ0_charAt_5068e 11 = .ok (.iload_n 1, 1) := by decide +kernel
theorem dJ0_charAt_5068e_12 : decode cJ0_charAt_5068e 12 = .ok (.invokestatic 495, 3) := by decide +kernel
theorem dJ0_charAt_5068e_15 : decode cJ0_charAt_5068e 15 = .ok (.ireturn, 1) := by decide +kernel
theorem dJ0_charAt_5068e_16 : decode cJ0_charAt_5068e 16 = .ok (.aload_n 0, 1) := by decide +kernel
theorem dJ0_charAt_5068e_17 : decode cJ0_charAt_5068e 17 = .ok (.getfield 9, 3) := by decide +kernel
theorem dJ0_charAt_5068e_20 : decode cJ0_charAt_5068e 20 = .ok (.iload_n 1, 1) := by decide +kernel
theorem dJ0_charAt_5068e_21 : decode cJ0_charAt_5068e 21 = .ok (.invokestatic 498, 3) := by decide +kernel
theorem dJ0_charAt_5068e_24 : decode cJ0_charAt_5068e 24 = .ok (.ireturn, 1) := by decide +kernel
theorem dJ0_coder_7d493_0 : decode cJ0_coder_7d493 0 = .ok (.getstatic 38, 3) := by decide +kernel
theorem dJ0_coder_7d493_3 : decode cJ0_coder_7d493 3 = .ok (.ifCond .eq 10, 3) := by decide +kernel
theorem dJ0_coder_7d493_6 : decode cJ0_coder_7d493 6 = .ok (.aload_n 0, 1) := by decide +kernel
theorem dJ0_coder_7d493_7 : decode cJ0_coder_7d493 7 = .ok (.getfield 15, 3) := by decide +kernel
theorem dJ0_coder_7d493_10 : decode cJ0_coder_7d493 10 = .ok (.goto 4, 3) := by decide +kernel
theorem dJ0_coder_7d493_13 : decode cJ0_coder_7d493 13 = .ok (.iconst 1, 1) := by decide +kernel
theorem dJ0_coder_7d493_14 : decode cJ0_coder_7d493 14 = .ok (.ireturn, 1) := by decide +kernel
theorem dJ0_isLatin1_aae02_0 : decode cJ0_isLatin1_aae02 0 = .ok (.getstatic 38, 3) := by decide +kernel
theorem dJ0_isLatin1_aae02_3 : decode cJ0_isLatin1_aae02 3 = .ok (.ifCond .eq 14, 3) := by decide +kernel
theorem dJ0_isLatin1_aae02_6 : decode cJ0_isLatin1_aae02 6 = .ok (.aload_n 0, 1) := by decide +kernel
theorem dJ0_isLatin1_aae02_7 : decode cJ0_isLatin1_aae02 7 = .ok (.getfield 15, 3) := by decide +kernel
theorem dJ0_isLatin1_aae02_10 : decode cJ0_isLatin1_aae02 10 = .ok (.ifCond .ne 7, 3) := by decide +kernel
theorem dJ0_isLatin1_aae02_13 : decode cJ0_isLatin1_aae02 13 = .ok (.iconst 1, 1) := by decide +kernel
theorem dJ0_isLatin1_aae02_14 : decode cJ0_isLatin1_aae02 14 = .ok (.goto 4, 3) := by decide +kernel
theorem dJ0_isLatin1_aae02_17 : decode cJ0_isLatin1_aae02 17 = .ok (.iconst 0, 1) := by decide +kernel
theorem dJ0_isLatin1_aae02_18 : decode cJ0_isLatin1_aae02 18 = .ok (.ireturn, 1) := by decide +kernel
set_option maxRecDepth 20000 in
theorem ggJ0_checkIndex_df160_J3_checkIndex_8e157 : GoodIn wsJ0_checkIndex_df160 wsJ3_checkIndex_8e157 := goodIn_r _ [5] (by decide +kernel) (by decide +kernel)
set_option maxRecDepth 20000 in
theorem gJ0_checkIndex_df160_J3_checkIndex_8e157 : GoodIn wsJ0_checkIndex_df160 (va_wsS RJ0 1059 yJ3_checkIndex_8e157 wsJ3_checkIndex_8e157) := goodIn_app (goodIn_of _ (by decide +kernel)) ggJ0_checkIndex_df160_J3_checkIndex_8e157
theorem dJ0_checkIndex_df160_0 : decode cJ0_checkIndex_df160 0 = .ok (.iload_n 0, 1) := by decide +kernel
theorem dJ0_checkIndex_df160_1 : decode cJ0_checkIndex_df160 1 = .ok (.iload_n 1, 1) := by decide +kernel
theorem dJ0_checkIndex_df160_2 : decode cJ0_checkIndex_df160 2 = .ok (.getstatic 1053, 3) := by decide +kernel
theorem dJ0_checkIndex_df160_5 : decode cJ0_checkIndex_df160 5 = .ok (.invokestatic 1059, 3) := by decide +kernel
theorem dJ0_checkIndex_df160_8 : decode cJ0_checkIndex_df160 8 = .ok (.pop, 1) := by decide +kernel
theorem dJ0_checkIndex_df160_9 : decode cJ0_checkIndex_df160 9 = .ok (.return_, 1) := by decide +kernel
set_option maxRecDepth 20000 in
theorem ggJ1_charAt_3b067_J0_checkIndex_df160 : GoodIn wsJ1_charAt_3b067 wsJ0_checkIndex_df160 := goodIn_r _ [4, 5, 6, 7, 8, 9] (by decide +kernel) (by decide +kernel)
set_option maxRecDepth 20000 in
theorem gJ1_charAt_3b067_J0_checkIndex_df160 : GoodIn wsJ1_charAt_3b067 (va_wsS RJ1 9 yJ0_checkIndex_df160 wsJ0_checkIndex_df160) := goodIn_app (goodIn_of _ (by decide +kernel)) ggJ1_charAt_3b067_J0_checkIndex_df160
theorem dJ1_charAt_3b067_0 : decode cJ1_charAt_3b067 0 = .ok (.iload_n 1, 1) := by decide +kernel
theorem dJ1_charAt_3b067_1 : decode cJ1_charAt_3b067 1 = .ok (.aload_n 0, 1) := by decide +kernel
theorem dJ1_charAt_3b067_2 : decode cJ1_charAt_3b067 2 = .ok (.arraylength, 1) := by decide +kernel
theorem dJ1_charAt_3b067_3 : decode cJ1_charAt_3b067 3 = .ok (.invokestatic 9, 3) := by decide +kernel
theorem dJ1_charAt_3b067_6 : decode cJ1_charAt_3b067 6 = .ok (.aload_n 0, 1) := by decide +kernel
theorem dJ1_charAt_3b067_7 : decode cJ1_charAt_3b067 7 = .ok (.iload_n 1, 1) := by decide +kernel
theorem dJ1_charAt_3b067_8 : decode cJ1_charAt_3b067 8 = .ok (.baload, 1) := by decide +kernel
theorem dJ1_charAt_3b067_9 : decode cJ1_charAt_3b067 9 = .ok (.sipush 255, 3) := by decide +kernel
theorem dJ1_charAt_3b067_12 : decode cJ1_charAt_3b067 12 = .ok (.iand, 1) := by decide +kernel
theorem dJ1_charAt_3b067_13 : decode cJ1_charAt_3b067 13 = .ok (.i2c, 1) := by decide +kernel
theorem dJ1_charAt_3b067_14 : decode cJ1_charAt_3b067 14 = .ok (.ireturn, 1) := by decide +kernel
set_option maxRecDepth 20000 in
theorem ggJ2_getChar_3b067_J2_length_9d52b : GoodIn wsJ2_getChar_3b067 wsJ2_length_9d52b := goodIn_r _ [7] (by decide +kernel) (by decide +kernel)
set_option maxRecDepth 20000 in
theorem gJ2_getChar_3b067_J2_length_9d52b : GoodIn wsJ2_getChar_3b067 (va_wsS RJ2 48 yJ2_length_9d52b wsJ2_length_9d52b) := goodIn_app (goodIn_of _ (by decide +kernel)) ggJ2_getChar_3b067_J2_length_9d52b
theorem dJ2_getChar_3b067_0 : decode cJ2_getChar_3b067 0 = .ok (.getstatic 44, 3) := by decide +kernel
theorem dJ2_getChar_3b067_3 : decode cJ2_getChar_3b067 3 = .ok (.ifCond .ne 25, 3) := by decide +kernel
theorem dJ2_getChar_3b067_6 : decode cJ2_getChar_3b067 6 = .ok (.iload_n 1, 1) := by decide +kernel
theorem dJ2_getChar_3b067_7 : decode cJ2_getChar_3b067 7 = .ok (.ifCond .lt 11, 3) := by decide +kernel
theorem dJ2_getChar_3b067_10 : decode cJ2_getChar_3b067 10 = .ok (.iload_n 1, 1) := by decide +kernel
theorem dJ2_getChar_3b067_11 : decode cJ2_getChar_3b067 11 = .ok (.aload_n 0, 1) := by decide +kernel
theorem dJ2_getChar_3b067_12 : decode cJ2_getChar_3b067 12 = .ok (.invokestatic 48, 3) := by decide +kernel
theorem dJ2_getChar_3b067_15 : decode cJ2_getChar_3b067 15 = .ok (.if_icmp .lt 13, 3) := by decide +kernel
theorem dJ2_getChar_3b067_18 : decode cJ2_getChar_3b067 18 = .ok (.new 52, 3) := by decide +kernel
theorem dJ2_getChar_3b067_21 : decode cJ2_getChar_3b067 21 = .ok (.dup, 1) := by decide +kernel
theorem dJ2_getChar_3b067_22 : decode cJ2_getChar_3b067 22 = .ok (.ldc 54, 2) := by decide +kernel
theorem dJ2_getChar_3b067_24 : decode cJ2_getChar_3b067 24 = .ok (.invokespecial 56, 3) := by decide +kernel
theorem dJ2_getChar_3b067_27 : decode cJ2_getChar_3b067 27 = .ok (.athrow, 1) := by decide +kernel
theorem dJ2_getChar_3b067_28 : decode cJ2_getChar_3b067 28 = .ok (.iload_n 1, 1) := by decide +kernel
theorem dJ2_getChar_3b067_29 : decode cJ2_getChar_3b067 29 = .ok (.iconst 1, 1) := by decide +kernel
theorem dJ2_getChar_3b067_30 : decode cJ2_getChar_3b067 30 = .ok (.ishl, 1) := by decide +kernel
theorem dJ2_getChar_3b067_31 : decode cJ2_getChar_3b067 31 = .ok (.istore_n 1, 1) := by decide +kernel
theorem dJ2_getChar_3b067_32 : decode cJ2_getChar_3b067 32 = .ok (.aload_n 0, 1) := by decide +kernel
theorem dJ2_getChar_3b067_33 : decode cJ2_getChar_3b067 33 = .ok (.iload_n 1, 1) := by decide +kernel
theorem dJ2_getChar_3b067_34 : decode cJ2_getChar_3b067 34 = .ok (.iinc 1 1, 3) := by decide +kernel
theorem dJ2_getChar_3b067_37 : decode cJ2_getChar_3b067 37 = .ok (.baload, 1) := by decide +kernel
theorem dJ2_getChar_3b067_38 : decode cJ2_getChar_3b067 38 = .ok (.sipush 255, 3) := by decide +kernel
theorem dJ2_getChar_3b067_41 : decode cJ2_getChar_3b067 41 = .ok (.iand, 1) := by decide +kernel
theorem dJ2_getChar_3b067_42 : decode cJ2_getChar_3b067 42 = .ok (.getstatic 59, 3) := by decide +kernel
theorem dJ2_getChar_3b067_45 : decode cJ2_getChar_3b067 45 = .ok (.ishl, 1) := by decide +kernel
theorem dJ2_getChar_3b067_46 : decode cJ2_getChar_3b067 46 = .ok (.aload_n 0, 1) := by decide +kernel
theorem dJ2_getChar_3b067_47 : decode cJ2_getChar_3b067 47 = .ok (.iload_n 1, 1) := by decide +kernel
theorem dJ2_getChar_3b067_48 : decode cJ2_getChar_3b067 48 = .ok (.baload, 1) := by decide +kernel
theorem dJ2_getChar_3b067_49 : decode cJ2_getChar_3b067 49 = .ok (.sipush 255, 3) := by decide +kernel
theorem dJ2_getChar_3b067_52 : decode cJ2_getChar_3b067 52 = .ok (.iand, 1) := by decide +kernel
theorem dJ2_getChar_3b067_53 : decode cJ2_getChar_3b067 53 = .ok (.getstatic 63, 3) := by decide +kernel
theorem dJ2_getChar_3b067_56 : decode cJ2_getChar_3b067 56 = .ok (.ishl, 1) := by decide +kernel
theorem dJ2_getChar_3b067_57 : decode cJ2_getChar_3b067 57 = .ok (.ior, 1) := by decide +kernel
theorem dJ2_getChar_3b067_58 : decode cJ2_getChar_3b067 58 = .ok (.i2c, 1) := by decide +kernel
theorem dJ2_getChar_3b067_59 : decode cJ2_getChar_3b067 59 = .ok (.ireturn, 1) := by decide +kernel
theorem dJ2_length_9d52b_0 : decode cJ2_length_9d52b 0 = .ok (.aload_n 0, 1) := by decide +kernel
theorem dJ2_length_9d52b_1 : decode cJ2_length_9d52b 1 = .ok (.arraylength, 1) := by decide +kernel
theorem dJ2_length_9d52b_2 : decode cJ2_length_9d52b 2 = .ok (.iconst 1, 1) := by decide +kernel
theorem dJ2_length_9d52b_3 : decode cJ2_length_9d52b 3 = .ok (.ishr, 1) := by decide +kernel
theorem dJ2_length_9d52b_4 : decode cJ2_length_9d52b 4 = .ok (.ireturn, 1) := by decide +kernel
set_option maxRecDepth 20000 in
theorem ggJ2_charAt_3b067_J2_checkIndex_2214a : GoodIn wsJ2_charAt_3b067 wsJ2_checkIndex_2214a := goodIn_r _ [4, 5, 6, 3, 7, 8, 9, 10, 11, 12, 13, 14, 15, 16] (by decide +kernel) (by decide +kernel)
set_option maxRecDepth 20000 in
theorem gJ2_charAt_3b067_J2_checkIndex_2214a : GoodIn wsJ2_charAt_3b067 (va_wsS RJ2 67 yJ2_checkIndex_2214a wsJ2_checkIndex_2214a) := goodIn_app (goodIn_of _ (by decide +kernel)) ggJ2_charAt_3b067_J2_checkIndex_2214a
set_option maxRecDepth 20000 in
theorem ggJ2_charAt_3b067_J2_getChar_3b067 : GoodIn wsJ2_charAt_3b067 wsJ2_getChar_3b067 := goodIn_r _ [19, 20, 21, 22, 5, 6, 3, 7] (by decide +kernel) (by decide +kernel)
set_option maxRecDepth 20000 in
theorem gJ2_charAt_3b067_J2_getChar_3b067 : GoodIn wsJ2_charAt_3b067 (va_wsS RJ2 71 yJ2_getChar_3b067 wsJ2_getChar_3b067) := goodIn_app (goodIn_of _ (by decide +kernel)) ggJ2_charAt_3b067_J2_getChar_3b067
theorem dJ2_charAt_3b067_0 : decode cJ2_charAt_3b067 0 = .ok (.iload_n 1, 1) := by decide +kernel
theorem dJ2_charAt_3b067_1 : decode cJ2_charAt_3b067 1 = .ok (.aload_n 0, 1) := by decide +kernel
theorem dJ2_charAt_3b067_2 : decode cJ2_charAt_3b067 2 = .ok (.invokestatic 67, 3) := by decide +kernel
theorem dJ2_charAt_3b067_5 : decode cJ2_charAt_3b067 5 = .ok (.aload_n 0, 1) := by decide +kernel
theorem dJ2_charAt_3b067_6 : decode cJ2_charAt_3b067 6 = .ok (.iload_n 1, 1) := by decide +kernel
theorem dJ2_charAt_3b067_7 : decode cJ2_charAt_3b067 7 = .ok (.invokestatic 71, 3) := by decide +kernel
theorem dJ2_charAt_3b067_10 : decode cJ2_charAt_3b067 10 = .ok (.ireturn, 1) := by decide +kernel
set_option maxRecDepth 20000 in
theorem ggJ2_checkIndex_2214a_J2_length_9d52b : GoodIn wsJ2_checkIndex_2214a wsJ2_length_9d52b := goodIn_r _ [4] (by decide +kernel) (by decide +kernel)
set_option maxRecDepth 20000 in
theorem gJ2_checkIndex_2214a_J2_length_9d52b : GoodIn wsJ2_checkIndex_2214a (va_wsS RJ2 48 yJ2_length_9d52b wsJ2_length_9d52b) := goodIn_app (goodIn_of _ (by decide +kernel)) ggJ2_checkIndex_2214a_J2_length_9d52b
set_option maxRecDepth 20000 in
theorem ggJ2_checkIndex_2214a_J0_checkIndex_df160 : GoodIn wsJ2_checkIndex_2214a wsJ0_checkIndex_df160 := goodIn_r _ [8, 9, 10, 11, 12, 13] (by decide +kernel) (by decide +kernel)
set_option maxRecDepth 20000 in
theorem gJ2_checkIndex_2214a_J0_checkIndex_df160 : GoodIn wsJ2_checkIndex_2214a (va_wsS RJ2 414 yJ0_checkIndex_df160 wsJ0_checkIndex_df160) := goodIn_app (goodIn_of _ (by decide +kernel)) ggJ2_checkIndex_2214a_J0_checkIndex_df160
theorem dJ2_checkIndex_2214a_0 : decode cJ2_checkIndex_2214a 0 = .ok (.iload_n 0, 1) := by decide +kernel
theorem dJ2_checkIndex_2214a_1 : decode cJ2_checkIndex_2214a 1 = .ok (.aload_n 1, 1) := by decide +kernel
theorem dJ2_checkIndex_2214a_2 : decode cJ2_checkIndex_2214a 2 = .ok (.invokestatic 48, 3) := by decide +kernel
theorem dJ2_checkIndex_2214a_5 : decode cJ2_checkIndex_2214a 5 = .ok (.invokestatic 414, 3) := by decide +kernel
theorem dJ2_checkIndex_2214a_8 : decode cJ2_checkIndex_2214a 8 = .ok (.return_, 1) := by decide +kernel
theorem dJ3_checkIndex_8e157_0 : decode cJ3_checkIndex_8e157 0 = .ok (.iload_n 0, 1) := by decide +kernel
theorem dJ3_checkIndex_8e157_1 : decode cJ3_checkIndex_8e157 1 = .ok (.ifCond .lt 8, 3) := by decide +kernel
theorem dJ3_checkIndex_8e157_4 : decode cJ3_checkIndex_8e157 4 = .ok (.iload_n 0, 1) := by decide +kernel
theorem dJ3_checkIndex_8e157_5 : decode cJ3_checkIndex_8e157 5 = .ok (.iload_n 1, 1) := by decide +kernel
theorem dJ3_checkIndex_8e157_6 : decode cJ3_checkIndex_8e157 6 = .ok (.if_icmp .lt 10, 3) := by decide +kernel
theorem dJ3_checkIndex_8e157_9 : decode cJ3_checkIndex_8e157 9 = .ok (.aload_n 2, 1) := by decide +kernel
theorem dJ3_checkIndex_8e157_10 : decode cJ3_checkIndex_8e157 10 = .ok (.iload_n 0, 1) := by decide +kernel
theorem dJ3_checkIndex_8e157_11 : decode cJ3_checkIndex_8e157 11 = .ok (.iload_n 1, 1) := by decide +kernel
theorem dJ3_checkIndex_8e157_12 : decode cJ3_checkIndex_8e157 12 = .ok (.invokestatic 95, 3) := by decide +kernel
theorem dJ3_checkIndex_8e157_15 : decode cJ3_checkIndex_8e157 15 = .ok (.athrow, 1) := by decide +kernel
theorem dJ3_checkIndex_8e157_16 : decode cJ3_checkIndex_8e157 16 = .ok (.iload_n 0, 1) := by decide +kernel
theorem dJ3_checkIndex_8e157_17 : decode cJ3_checkIndex_8e157 17 = .ok (.ireturn, 1) := by decide +kernel
