theorem dX10_init_0 : decode cX10_init 0 = .ok (.aload_n 0, 1) := by decide +kernel
theorem dX10_init_1 : decode cX10_init 1 = .ok (.invokespecial 1, 3) := by decide +kernel
theorem dX10_init_4 : decode cX10_init 4 = .ok (.aload_n 0, 1) := by decide +kernel
theorem dX10_init_5 : decode cX10_init 5 = .ok (.sipush 3015, 3) := by decide +kernel
theorem dX10_init_8 : decode cX10_init 8 = .ok (.newarray .int, 2) := by decide +kernel
theorem dX10_init_10 : decode cX10_init 10 = .ok (.putfield 7, 3) := by decide +kernel
theorem dX10_init_13 : decode cX10_init 13 = .ok (.aload_n 0, 1) := by decide +kernel
theorem dX10_init_14 : decode cX10_init 14 = .ok (.sipush 3015, 3) := by decide +kernel
theorem dX10_init_17 : decode cX10_init 17 = .ok (.newarray .int, 2) := by decide +kernel
theorem dX10_init_19 : decode cX10_init 19 = .ok (.putfield 13, 3) := by decide +kernel
theorem dX10_init_22 : decode cX10_init 22 = .ok (.aload_n 0, 1) := by decide +kernel
theorem dX10_init_23 : decode cX10_init 23 = .ok (.sipush 2724, 3) := by decide +kernel
theorem dX10_init_26 : decode cX10_init 26 = .ok (.newarray .int, 2) := by decide +kernel
theorem dX10_init_28 : decode cX10_init 28 = .ok (.putfield 16, 3) := by decide +kernel
theorem dX10_init_31 : decode cX10_init 31 = .ok (.aload_n 0, 1) := by decide +kernel
theorem dX10_init_32 : decode cX10_init 32 = .ok (.sipush 300, 3) := by decide +kernel
theorem dX10_init_35 : decode cX10_init 35 = .ok (.newarray .int, 2) := by decide +kernel
theorem dX10_init_37 : decode cX10_init 37 = .ok (.putfield 19, 3) := by decide +kernel
theorem dX10_init_40 : decode cX10_init 40 = .ok (.aload_n 0, 1) := by decide +kernel
theorem dX10_init_41 : decode cX10_init 41 = .ok (.iconst (-1), 1) := by decide +kernel
theorem dX10_init_42 : decode cX10_init 42 = .ok (.putfield 22, 3) := by decide +kernel
theorem dX10_init_45 : decode cX10_init 45 = .ok (.aload_n 0, 1) := by decide +kernel
theorem dX10_init_46 : decode cX10_init 46 = .ok (.iconst (-1), 1) := by decide +kernel
theorem dX10_init_47 : decode cX10_init 47 = .ok (.putfield 26, 3) := by decide +kernel
theorem dX10_init_50 : decode cX10_init 50 = .ok (.aload_n 0, 1) := by decide +kernel
theorem dX10_init_51 : decode cX10_init 51 = .ok (.sipush 160, 3) := by decide +kernel
theorem dX10_init_54 : decode cX10_init 54 = .ok (.newarray .int, 2) := by decide +kernel
theorem dX10_init_56 : decode cX10_init 56 = .ok (.putfield 29, 3) := by decide +kernel
theorem dX10_init_59 : decode cX10_init 59 = .ok (.aload_n 0, 1) := by decide +kernel
theorem dX10_init_60 : decode cX10_init 60 = .ok (.bipush 8, 2) := by decide +kernel
theorem dX10_init_62 : decode cX10_init 62 = .ok (.newarray .int, 2) := by decide +kernel
theorem dX10_init_64 : decode cX10_init 64 = .ok (.putfield 32, 3) := by decide +kernel
theorem dX10_init_67 : decode cX10_init 67 = .ok (.aload_n 0, 1) := by decide +kernel
theorem dX10_init_68 : decode cX10_init 68 = .ok (.sipush 330, 3) := by decide +kernel
theorem dX10_init_71 : decode cX10_init 71 = .ok (.newarray .long, 2) := by decide +kernel
theorem dX10_init_73 : decode cX10_init 73 = .ok (.putfield 35, 3) := by decide +kernel
theorem dX10_init_76 : decode cX10_init 76 = .ok (.aload_n 0, 1) := by decide +kernel
theorem dX10_init_77 : decode cX10_init 77 = .ok (.sipush 330, 3) := by decide +kernel
theorem dX10_init_80 : decode cX10_init 80 = .ok (.newarray .boolean, 2) := by decide +kernel
theorem dX10_init_82 : decode cX10_init 82 = .ok (.putfield 39, 3) := by decide +kernel
theorem dX10_init_85 : decode cX10_init 85 = .ok (.aload_n 0, 1) := by decide +kernel
theorem dX10_init_86 : decode cX10_init 86 = .ok (.iconst 1, 1) := by decide +kernel
theorem dX10_init_87 : decode cX10_init 87 = .ok (.putfield 43, 3) := by decide +kernel
theorem dX10_init_90 : decode cX10_init 90 = .ok (.aload_n 0, 1) := by decide +kernel
theorem dX10_init_91 : decode cX10_init 91 = .ok (.bipush 41, 2) := by decide +kernel
theorem dX10_init_93 : decode cX10_init 93 = .ok (.newarray .int, 2) := by decide +kernel
theorem dX10_init_95 : decode cX10_init 95 = .ok (.putfield 47, 3) := by decide +kernel
theorem dX10_init_98 : decode cX10_init 98 = .ok (.aload_n 0, 1) := by decide +kernel
theorem dX10_init_99 : decode cX10_init 99 = .ok (.bipush 12, 2) := by decide +kernel
theorem dX10_init_101 : decode cX10_init 101 = .ok (.newarray .int, 2) := by decide +kernel
theorem dX10_init_103 : decode cX10_init 103 = .ok (.putfield 50, 3) := by decide +kernel
theorem dX10_init_106 : decode cX10_init 106 = .ok (.aload_n 0, 1) := by decide +kernel
theorem dX10_init_107 : decode cX10_init 107 = .ok (.sipush 144, 3) := by decide +kernel
theorem dX10_init_110 : decode cX10_init 110 = .ok (.newarray .int, 2) := by decide +kernel
theorem dX10_init_112 : decode cX10_init 112 = .ok (.putfield 53, 3) := by decide +kernel
theorem dX10_init_115 : decode cX10_init 115 = .ok (.aload_n 0, 1) := by decide +kernel
theorem dX10_init_116 : decode cX10_init 116 = .ok (.bipush 19, 2) := by decide +kernel
theorem dX10_init_118 : decode cX10_init 118 = .ok (.newarray .int, 2) := by decide +kernel
theorem dX10_init_120 : decode cX10_init 120 = .ok (.putfield 56, 3) := by decide +kernel
theorem dX10_init_123 : decode cX10_init 123 = .ok (.aload_n 0, 1) := by decide +kernel
theorem dX10_init_124 : decode cX10_init 124 = .ok (.getfield 7, 3) := by decide +kernel
theorem dX10_init_127 : decode cX10_init 127 = .ok (.bipush 7, 2) := by decide +kernel
theorem dX10_init_129 : decode cX10_init 129 = .ok (.sipush 281, 3) := by decide +kernel
theorem dX10_init_132 : decode cX10_init 132 = .ok (.iastore, 1) := by decide +kernel
theorem dX10_init_133 : decode cX10_init 133 = .ok (.aload_n 0, 1) := by decide +kernel
theorem dX10_init_134 : decode cX10_init 134 = .ok (.getfield 7, 3) := by decide +kernel
theorem dX10_init_137 : decode cX10_init 137 = .ok (.iconst 3, 1) := by decide +kernel
theorem dX10_init_138 : decode cX10_init 138 = .ok (.iconst (-1), 1) := by decide +kernel
theorem dX10_init_139 : decode cX10_init 139 = .ok (.iastore, 1) := by decide +kernel
theorem dX10_init_140 : decode cX10_init 140 = .ok (.iconst 0, 1) := by decide +kernel
theorem dX10_init_141 : decode cX10_init 141 = .ok (.istore_n 1, 1) := by decide +kernel
theorem dX10_init_142 : decode cX10_init 142 = .ok (.iload_n 1, 1) := by decide +kernel
theorem dX10_init_143 : decode cX10_init 143 = .ok (.bipush 12, 2) := by decide +kernel
theorem dX10_init_145 : decode cX10_init 145 = .ok (.if_icmp .ge 20, 3) := by decide +kernel
theorem dX10_init_148 : decode cX10_init 148 = .ok (.aload_n 0, 1) := by decide +kernel
theorem dX10_init_149 : decode cX10_init 149 = .ok (.getfield 7, 3) := by decide +kernel
theorem dX10_init_152 : decode cX10_init 152 = .ok (.bipush 11, 2) := by decide +kernel
theorem dX10_init_154 : decode cX10_init 154 = .ok (.iload_n 1, 1) := by decide +kernel
theorem dX10_init_155 : decode cX10_init 155 = .ok (.iadd, 1) := by decide +kernel
theorem dX10_init_156 : decode cX10_init 156 = .ok (.bipush 20, 2) := by decide +kernel
theorem dX10_init_158 : decode cX10_init 158 = .ok (.iastore, 1) := by decide +kernel
theorem dX10_init_159 : decode cX10_init 159 = .ok (.iinc 1 1, 3) := by decide +kernel
theorem dX10_init_162 : decode cX10_init 162 = .ok (.goto (-20), 3) := by decide +kernel
theorem dX10_init_165 : decode cX10_init 165 = .ok (.aload_n 0, 1) := by decide +kernel
theorem dX10_init_166 : decode cX10_init 166 = .ok (.getfield 7, 3) := by decide +kernel
theorem dX10_init_169 : decode cX10_init 169 = .ok (.aload_n 0, 1) := by decide +kernel
theorem dX10_init_170 : decode cX10_init 170 = .ok (.getfield 13, 3) := by decide +kernel
theorem dX10_init_173 : decode cX10_init 173 = .ok (.invokestatic 59, 3) := by decide +kernel
theorem dX10_init_176 : decode cX10_init 176 = .ok (.return_, 1) := by decide +kernel
theorem dX10_copy_0 : decode cX10_copy 0 = .ok (.iconst 0, 1) := by decide +kernel
theorem dX10_copy_1 : decode cX10_copy 1 = .ok (.istore_n 2, 1) := by decide +kernel
theorem dX10_copy_2 : decode cX10_copy 2 = .ok (.iload_n 2, 1) := by decide +kernel
theorem dX10_copy_3 : decode cX10_copy 3 = .ok (.sipush 3015, 3) := by decide +kernel
theorem dX10_copy_6 : decode cX10_copy 6 = .ok (.if_icmp .ge 15, 3) := by decide +kernel
theorem dX10_copy_9 : decode cX10_copy 9 = .ok (.aload_n 1, 1) := by decide +kernel
theorem dX10_copy_10 : decode cX10_copy 10 = .ok (.iload_n 2, 1) := by decide +kernel
theorem dX10_copy_11 : decode cX10_copy 11 = .ok (.aload_n 0, 1) := by decide +kernel
theorem dX10_copy_12 : decode cX10_copy 12 = .ok (.iload_n 2, 1) := by decide +kernel
theorem dX10_copy_13 : decode cX10_copy 13 = .ok (.iaload, 1) := by decide +kernel
theorem dX10_copy_14 : decode cX10_copy 14 = .ok (.iastore, 1) := by decide +kernel
theorem dX10_copy_15 : decode cX10_copy 15 = .ok (.iinc 2 1, 3) := by decide +kernel
theorem dX10_copy_18 : decode cX10_copy 18 = .ok (.goto (-16), 3) := by decide +kernel
theorem dX10_copy_21 : decode cX10_copy 21 = .ok (.return_, 1) := by decide +kernel
theorem dX10_isIn_0 : decode cX10_isIn 0 = .ok (.iload_n 0, 1) := by decide +kernel
theorem dX10_isIn_1 : decode cX10_isIn 1 = .ok (.iload_n 1, 1) := by decide +kernel
theorem dX10_isIn_2 : decode cX10_isIn 2 = .ok (.if_icmp .lt 12, 3) := by decide +kernel
theorem dX10_isIn_5 : decode cX10_isIn 5 = .ok (.iload_n 0, 1) := by decide +kernel
theorem dX10_isIn_6 : decode cX10_isIn 6 = .ok (.iload_n 2, 1) := by decide +kernel
theorem dX10_isIn_7 : decode cX10_isIn 7 = .ok (.if_icmp .gt 7, 3) := by decide +kernel
theorem dX10_isIn_10 : decode cX10_isIn 10 = .ok (.iconst 1, 1) := by decide +kernel
theorem dX10_isIn_11 : decode cX10_isIn 11 = .ok (.goto 4, 3) := by decide +kernel
theorem dX10_isIn_14 : decode cX10_isIn 14 = .ok (.iconst 0, 1) := by decide +kernel
theorem dX10_isIn_15 : decode cX10_isIn 15 = .ok (.ireturn, 1) := by decide +kernel
theorem dX10_cut_0 : decode cX10_cut 0 = .ok (.lload_n 0, 1) := by decide +kernel
theorem dX10_cut_1 : decode cX10_cut 1 = .ok (.iload_n 2, 1) := by decide +kernel
theorem dX10_cut_2 : decode cX10_cut 2 = .ok (.i2l, 1) := by decide +kernel
theorem dX10_cut_3 : decode cX10_cut 3 = .ok (.lcmp, 1) := by decide +kernel
theorem dX10_cut_4 : decode cX10_cut 4 = .ok (.ifCond .ge 7, 3) := by decide +kernel
theorem dX10_cut_7 : decode cX10_cut 7 = .ok (.iload_n 2, 1) := by decide +kernel
theorem dX10_cut_8 : decode cX10_cut 8 = .ok (.goto 16, 3) := by decide +kernel
theorem dX10_cut_11 : decode cX10_cut 11 = .ok (.lload_n 0, 1) := by decide +kernel
theorem dX10_cut_12 : decode cX10_cut 12 = .ok (.iload_n 3, 1) := by decide +kernel
theorem dX10_cut_13 : decode cX10_cut 13 = .ok (.i2l, 1) := by decide +kernel
theorem dX10_cut_14 : decode cX10_cut 14 = .ok (.lcmp, 1) := by decide +kernel
theorem dX10_cut_15 : decode cX10_cut 15 = .ok (.ifCond .le 7, 3) := by decide +kernel
theorem dX10_cut_18 : decode cX10_cut 18 = .ok (.iload_n 3, 1) := by decide +kernel
theorem dX10_cut_19 : decode cX10_cut 19 = .ok (.goto 5, 3) := by decide +kernel
theorem dX10_cut_22 : decode cX10_cut 22 = .ok (.lload_n 0, 1) := by decide +kernel
theorem dX10_cut_23 : decode cX10_cut 23 = .ok (.l2i, 1) := by decide +kernel
theorem dX10_cut_24 : decode cX10_cut 24 = .ok (.ireturn, 1) := by decide +kernel
theorem dX10_has_0 : decode cX10_has 0 = .ok (.iload_n 0, 1) := by decide +kernel
theorem dX10_has_1 : decode cX10_has 1 = .ok (.iload_n 1, 1) := by decide +kernel
theorem dX10_has_2 : decode cX10_has 2 = .ok (.ishr, 1) := by decide +kernel
theorem dX10_has_3 : decode cX10_has 3 = .ok (.iconst 1, 1) := by decide +kernel
theorem dX10_has_4 : decode cX10_has 4 = .ok (.iand, 1) := by decide +kernel
theorem dX10_has_5 : decode cX10_has 5 = .ok (.iconst 1, 1) := by decide +kernel
theorem dX10_has_6 : decode cX10_has 6 = .ok (.if_icmp .ne 7, 3) := by decide +kernel
theorem dX10_has_9 : decode cX10_has 9 = .ok (.iconst 1, 1) := by decide +kernel
theorem dX10_has_10 : decode cX10_has 10 = .ok (.goto 4, 3) := by decide +kernel
theorem dX10_has_13 : decode cX10_has 13 = .ok (.iconst 0, 1) := by decide +kernel
theorem dX10_has_14 : decode cX10_has 14 = .ok (.ireturn, 1) := by decide +kernel
theorem dX10_isHand_0 : decode cX10_isHand 0 = .ok (.iload_n 1, 1) := by decide +kernel
theorem dX10_isHand_1 : decode cX10_isHand 1 = .ok (.iconst 0, 1) := by decide +kernel
theorem dX10_isHand_2 : decode cX10_isHand 2 = .ok (.aload_n 0, 1) := by decide +kernel
theorem dX10_isHand_3 : decode cX10_isHand 3 = .ok (.getfield 7, 3) := by decide +kernel
theorem dX10_isHand_6 : decode cX10_isHand 6 = .ok (.iconst 0, 1) := by decide +kernel
theorem dX10_isHand_7 : decode cX10_isHand 7 = .ok (.iaload, 1) := by decide +kernel
theorem dX10_isHand_8 : decode cX10_isHand 8 = .ok (.iconst 1, 1) := by decide +kernel
theorem dX10_isHand_9 : decode cX10_isHand 9 = .ok (.isub, 1) := by decide +kernel
theorem dX10_isHand_10 : decode cX10_isHand 10 = .ok (.invokestatic 63, 3) := by decide +kernel
theorem dX10_isHand_13 : decode cX10_isHand 13 = .ok (.ireturn, 1) := by decide +kernel
theorem dX10_isCell_0 : decode cX10_isCell 0 = .ok (.iload_n 0, 1) := by decide +kernel
theorem dX10_isCell_1 : decode cX10_isCell 1 = .ok (.iconst 0, 1) := by decide +kernel
theorem dX10_isCell_2 : decode cX10_isCell 2 = .ok (.bipush 11, 2) := by decide +kernel
theorem dX10_isCell_4 : decode cX10_isCell 4 = .ok (.invokestatic 63, 3) := by decide +kernel
theorem dX10_isCell_7 : decode cX10_isCell 7 = .ok (.ireturn, 1) := by decide +kernel
theorem dX10_townsIn_0 : decode cX10_townsIn 0 = .ok (.iconst 0, 1) := by decide +kernel
theorem dX10_townsIn_1 : decode cX10_townsIn 1 = .ok (.istore_n 2, 1) := by decide +kernel
theorem dX10_townsIn_2 : decode cX10_townsIn 2 = .ok (.iconst 0, 1) := by decide +kernel
theorem dX10_townsIn_3 : decode cX10_townsIn 3 = .ok (.istore_n 3, 1) := by decide +kernel
theorem dX10_townsIn_4 : decode cX10_townsIn 4 = .ok (.iload_n 3, 1) := by decide +kernel
theorem dX10_townsIn_5 : decode cX10_townsIn 5 = .ok (.aload_n 0, 1) := by decide +kernel
theorem dX10_townsIn_6 : decode cX10_townsIn 6 = .ok (.getfield 7, 3) := by decide +kernel
theorem dX10_townsIn_9 : decode cX10_townsIn 9 = .ok (.iconst 1, 1) := by decide +kernel
theorem dX10_townsIn_10 : decode cX10_townsIn 10 = .ok (.iaload, 1) := by decide +kernel
theorem dX10_townsIn_11 : decode cX10_townsIn 11 = .ok (.if_icmp .ge 32, 3) := by decide +kernel
theorem dX10_townsIn_14 : decode cX10_townsIn 14 = .ok (.iload_n 2, 1) := by decide +kernel
theorem dX10_townsIn_15 : decode cX10_townsIn 15 = .ok (.aload_n 0, 1) := by decide +kernel
theorem dX10_townsIn_16 : decode cX10_townsIn 16 = .ok (.getfield 7, 3) := by decide +kernel
theorem dX10_townsIn_19 : decode cX10_townsIn 19 = .ok (.bipush 35, 2) := by decide +kernel
theorem dX10_townsIn_21 : decode cX10_townsIn 21 = .ok (.iload_n 3, 1) := by decide +kernel
theorem dX10_townsIn_22 : decode cX10_townsIn 22 = .ok (.iadd, 1) := by decide +kernel
theorem dX10_townsIn_23 : decode cX10_townsIn 23 = .ok (.iaload, 1) := by decide +kernel
theorem dX10_townsIn_24 : decode cX10_townsIn 24 = .ok (.iload_n 1, 1) := by decide +kernel
theorem dX10_townsIn_25 : decode cX10_townsIn 25 = .ok (.if_icmp .ne 9, 3) := by decide +kernel
theorem dX10_townsIn_28 : decode cX10_townsIn 28 = .ok (.iconst 1, 1) := by decide +kernel
theorem dX10_townsIn_29 : decode cX10_townsIn 29 = .ok (.iload_n 3, 1) := by decide +kernel
theorem dX10_townsIn_30 : decode cX10_townsIn 30 = .ok (.ishl, 1) := by decide +kernel
theorem dX10_townsIn_31 : decode cX10_townsIn 31 = .ok (.goto 4, 3) := by decide +kernel
theorem dX10_townsIn_34 : decode cX10_townsIn 34 = .ok (.iconst 0, 1) := by decide +kernel
theorem dX10_townsIn_35 : decode cX10_townsIn 35 = .ok (.ior, 1) := by decide +kernel
theorem dX10_townsIn_36 : decode cX10_townsIn 36 = .ok (.istore_n 2, 1) := by decide +kernel
theorem dX10_townsIn_37 : decode cX10_townsIn 37 = .ok (.iinc 3 1, 3) := by decide +kernel
theorem dX10_townsIn_40 : decode cX10_townsIn 40 = .ok (.goto (-36), 3) := by decide +kernel
theorem dX10_townsIn_43 : decode cX10_townsIn 43 = .ok (.iload_n 2, 1) := by decide +kernel
theorem dX10_townsIn_44 : decode cX10_townsIn 44 = .ok (.ireturn, 1) := by decide +kernel
theorem dX10_tornNow_0 : decode cX10_tornNow 0 = .ok (.iconst 0, 1) := by decide +kernel
theorem dX10_tornNow_1 : decode cX10_tornNow 1 = .ok (.istore_n 1, 1) := by decide +kernel
theorem dX10_tornNow_2 : decode cX10_tornNow 2 = .ok (.iconst 0, 1) := by decide +kernel
theorem dX10_tornNow_3 : decode cX10_tornNow 3 = .ok (.istore_n 2, 1) := by decide +kernel
theorem dX10_tornNow_4 : decode cX10_tornNow 4 = .ok (.iload_n 2, 1) := by decide +kernel
theorem dX10_tornNow_5 : decode cX10_tornNow 5 = .ok (.bipush 12, 2) := by decide +kernel
theorem dX10_tornNow_7 : decode cX10_tornNow 7 = .ok (.if_icmp .ge 23, 3) := by decide +kernel
theorem dX10_tornNow_10 : decode cX10_tornNow 10 = .ok (.iload_n 1, 1) := by decide +kernel
theorem dX10_tornNow_11 : decode cX10_tornNow 11 = .ok (.aload_n 0, 1) := by decide +kernel
theorem dX10_tornNow_12 : decode cX10_tornNow 12 = .ok (.getfield 7, 3) := by decide +kernel
theorem dX10_tornNow_15 : decode cX10_tornNow 15 = .ok (.bipush 23, 2) := by decide +kernel
theorem dX10_tornNow_17 : decode cX10_tornNow 17 = .ok (.iload_n 2, 1) := by decide +kernel
theorem dX10_tornNow_18 : decode cX10_tornNow 18 = .ok (.iadd, 1) := by decide +kernel
theorem dX10_tornNow_19 : decode cX10_tornNow 19 = .ok (.iaload, 1) := by decide +kernel
theorem dX10_tornNow_20 : decode cX10_tornNow 20 = .ok (.iload_n 2, 1) := by decide +kernel
theorem dX10_tornNow_21 : decode cX10_tornNow 21 = .ok (.ishl, 1) := by decide +kernel
theorem dX10_tornNow_22 : decode cX10_tornNow 22 = .ok (.ior, 1) := by decide +kernel
theorem dX10_tornNow_23 : decode cX10_tornNow 23 = .ok (.istore_n 1, 1) := by decide +kernel
theorem dX10_tornNow_24 : decode cX10_tornNow 24 = .ok (.iinc 2 1, 3) := by decide +kernel
theorem dX10_tornNow_27 : decode cX10_tornNow 27 = .ok (.goto (-23), 3) := by decide +kernel
theorem dX10_tornNow_30 : decode cX10_tornNow 30 = .ok (.iload_n 1, 1) := by decide +kernel
theorem dX10_tornNow_31 : decode cX10_tornNow 31 = .ok (.ireturn, 1) := by decide +kernel
theorem dX10_doughOf_0 : decode cX10_doughOf 0 = .ok (.iconst 0, 1) := by decide +kernel
theorem dX10_doughOf_1 : decode cX10_doughOf 1 = .ok (.istore_n 3, 1) := by decide +kernel
theorem dX10_doughOf_2 : decode cX10_doughOf 2 = .ok (.iload_n 1, 1) := by decide +kernel
theorem dX10_doughOf_3 : decode cX10_doughOf 3 = .ok (.istore 4, 2) := by decide +kernel
theorem dX10_doughOf_5 : decode cX10_doughOf 5 = .ok (.iload 4, 2) := by decide +kernel
theorem dX10_doughOf_7 : decode cX10_doughOf 7 = .ok (.iload_n 1, 1) := by decide +kernel
theorem dX10_doughOf_8 : decode cX10_doughOf 8 = .ok (.iload_n 2, 1) := by decide +kernel
theorem dX10_doughOf_9 : decode cX10_doughOf 9 = .ok (.iadd, 1) := by decide +kernel
theorem dX10_doughOf_10 : decode cX10_doughOf 10 = .ok (.if_icmp .ge 22, 3) := by decide +kernel
theorem dX10_doughOf_13 : decode cX10_doughOf 13 = .ok (.iload_n 3, 1) := by decide +kernel
theorem dX10_doughOf_14 : decode cX10_doughOf 14 = .ok (.aload_n 0, 1) := by decide +kernel
theorem dX10_doughOf_15 : decode cX10_doughOf 15 = .ok (.getfield 7, 3) := by decide +kernel
theorem dX10_doughOf_18 : decode cX10_doughOf 18 = .ok (.bipush 11, 2) := by decide +kernel
theorem dX10_doughOf_20 : decode cX10_doughOf 20 = .ok (.iload 4, 2) := by decide +kernel
theorem dX10_doughOf_22 : decode cX10_doughOf 22 = .ok (.iadd, 1) := by decide +kernel
theorem dX10_doughOf_23 : decode cX10_doughOf 23 = .ok (.iaload, 1) := by decide +kernel
theorem dX10_doughOf_24 : decode cX10_doughOf 24 = .ok (.iadd, 1) := by decide +kernel
theorem dX10_doughOf_25 : decode cX10_doughOf 25 = .ok (.istore_n 3, 1) := by decide +kernel
theorem dX10_doughOf_26 : decode cX10_doughOf 26 = .ok (.iinc 4 1, 3) := by decide +kernel
theorem dX10_doughOf_29 : decode cX10_doughOf 29 = .ok (.goto (-24), 3) := by decide +kernel
theorem dX10_doughOf_32 : decode cX10_doughOf 32 = .ok (.iload_n 3, 1) := by decide +kernel
theorem dX10_doughOf_33 : decode cX10_doughOf 33 = .ok (.ireturn, 1) := by decide +kernel
theorem dX10_hand_0 : decode cX10_hand 0 = .ok (.iload_n 1, 1) := by decide +kernel
theorem dX10_hand_1 : decode cX10_hand 1 = .ok (.iconst 1, 1) := by decide +kernel
theorem dX10_hand_2 : decode cX10_hand 2 = .ok (.bipush 9, 2) := by decide +kernel
theorem dX10_hand_4 : decode cX10_hand 4 = .ok (.invokestatic 63, 3) := by decide +kernel
theorem dX10_hand_7 : decode cX10_hand 7 = .ok (.ifCond .eq 13, 3) := by decide +kernel
theorem dX10_hand_10 : decode cX10_hand 10 = .ok (.aload_n 0, 1) := by decide +kernel
theorem dX10_hand_11 : decode cX10_hand 11 = .ok (.getfield 7, 3) := by decide +kernel
theorem dX10_hand_14 : decode cX10_hand 14 = .ok (.iconst 0, 1) := by decide +kernel
theorem dX10_hand_15 : decode cX10_hand 15 = .ok (.iaload, 1) := by decide +kernel
theorem dX10_hand_16 : decode cX10_hand 16 = .ok (.iconst 4, 1) := by decide +kernel
theorem dX10_hand_17 : decode cX10_hand 17 = .ok (.if_icmp .ne 5, 3) := by decide +kernel
theorem dX10_hand_20 : decode cX10_hand 20 = .ok (.iconst (-1), 1) := by decide +kernel
theorem dX10_hand_21 : decode cX10_hand 21 = .ok (.ireturn, 1) := by decide +kernel
theorem dX10_hand_22 : decode cX10_hand 22 = .ok (.aload_n 0, 1) := by decide +kernel
theorem dX10_hand_23 : decode cX10_hand 23 = .ok (.getfield 7, 3) := by decide +kernel
theorem dX10_hand_26 : decode cX10_hand 26 = .ok (.bipush 47, 2) := by decide +kernel
theorem dX10_hand_28 : decode cX10_hand 28 = .ok (.aload_n 0, 1) := by decide +kernel
theorem dX10_hand_29 : decode cX10_hand 29 = .ok (.getfield 7, 3) := by decide +kernel
theorem dX10_hand_32 : decode cX10_hand 32 = .ok (.iconst 0, 1) := by decide +kernel
theorem dX10_hand_33 : decode cX10_hand 33 = .ok (.iaload, 1) := by decide +kernel
theorem dX10_hand_34 : decode cX10_hand 34 = .ok (.iadd, 1) := by decide +kernel
theorem dX10_hand_35 : decode cX10_hand 35 = .ok (.iload_n 1, 1) := by decide +kernel
theorem dX10_hand_36 : decode cX10_hand 36 = .ok (.iastore, 1) := by decide +kernel
theorem dX10_hand_37 : decode cX10_hand 37 = .ok (.aload_n 0, 1) := by decide +kernel
theorem dX10_hand_38 : decode cX10_hand 38 = .ok (.getfield 7, 3) := by decide +kernel
theorem dX10_hand_41 : decode cX10_hand 41 = .ok (.iconst 0, 1) := by decide +kernel
theorem dX10_hand_42 : decode cX10_hand 42 = .ok (.dup2, 1) := by decide +kernel
theorem dX10_hand_43 : decode cX10_hand 43 = .ok (.iaload, 1) := by decide +kernel
theorem dX10_hand_44 : decode cX10_hand 44 = .ok (.iconst 1, 1) := by decide +kernel
theorem dX10_hand_45 : decode cX10_hand 45 = .ok (.iadd, 1) := by decide +kernel
theorem dX10_hand_46 : decode cX10_hand 46 = .ok (.iastore, 1) := by decide +kernel
theorem dX10_hand_47 : decode cX10_hand 47 = .ok (.aload_n 0, 1) := by decide +kernel
theorem dX10_hand_48 : decode cX10_hand 48 = .ok (.getfield 7, 3) := by decide +kernel
theorem dX10_hand_51 : decode cX10_hand 51 = .ok (.iconst 0, 1) := by decide +kernel
theorem dX10_hand_52 : decode cX10_hand 52 = .ok (.iaload, 1) := by decide +kernel
theorem dX10_hand_53 : decode cX10_hand 53 = .ok (.iconst 1, 1) := by decide +kernel
theorem dX10_hand_54 : decode cX10_hand 54 = .ok (.isub, 1) := by decide +kernel
theorem dX10_hand_55 : decode cX10_hand 55 = .ok (.ireturn, 1) := by decide +kernel
theorem dX10_dough_0 : decode cX10_dough 0 = .ok (.iload_n 1, 1) := by decide +kernel
theorem dX10_dough_1 : decode cX10_dough 1 = .ok (.invokestatic 67, 3) := by decide +kernel
theorem dX10_dough_4 : decode cX10_dough 4 = .ok (.ifCond .eq 14, 3) := by decide +kernel
theorem dX10_dough_7 : decode cX10_dough 7 = .ok (.iload_n 2, 1) := by decide +kernel
theorem dX10_dough_8 : decode cX10_dough 8 = .ok (.iconst 0, 1) := by decide +kernel
theorem dX10_dough_9 : decode cX10_dough 9 = .ok (.sipush 999, 3) := by decide +kernel
theorem dX10_dough_12 : decode cX10_dough 12 = .ok (.invokestatic 63, 3) := by decide +kernel
theorem dX10_dough_15 : decode cX10_dough 15 = .ok (.ifCond .ne 5, 3) := by decide +kernel
theorem dX10_dough_18 : decode cX10_dough 18 = .ok (.iconst 0, 1) := by decide +kernel
theorem dX10_dough_19 : decode cX10_dough 19 = .ok (.ireturn, 1) := by decide +kernel
theorem dX10_dough_20 : decode cX10_dough 20 = .ok (.aload_n 0, 1) := by decide +kernel
theorem dX10_dough_21 : decode cX10_dough 21 = .ok (.getfield 7, 3) := by decide +kernel
theorem dX10_dough_24 : decode cX10_dough 24 = .ok (.bipush 11, 2) := by decide +kernel
theorem dX10_dough_26 : decode cX10_dough 26 = .ok (.iload_n 1, 1) := by decide +kernel
theorem dX10_dough_27 : decode cX10_dough 27 = .ok (.iadd, 1) := by decide +kernel
theorem dX10_dough_28 : decode cX10_dough 28 = .ok (.iload_n 2, 1) := by decide +kernel
theorem dX10_dough_29 : decode cX10_dough 29 = .ok (.iastore, 1) := by decide +kernel
theorem dX10_dough_30 : decode cX10_dough 30 = .ok (.iconst 0, 1) := by decide +kernel
theorem dX10_dough_31 : decode cX10_dough 31 = .ok (.istore_n 3, 1) := by decide +kernel
theorem dX10_dough_32 : decode cX10_dough 32 = .ok (.iload_n 3, 1) := by decide +kernel
theorem dX10_dough_33 : decode cX10_dough 33 = .ok (.aload_n 0, 1) := by decide +kernel
theorem dX10_dough_34 : decode cX10_dough 34 = .ok (.getfield 7, 3) := by decide +kernel
theorem dX10_dough_37 : decode cX10_dough 37 = .ok (.iconst 4, 1) := by decide +kernel
theorem dX10_dough_38 : decode cX10_dough 38 = .ok (.iaload, 1) := by decide +kernel
theorem dX10_dough_39 : decode cX10_dough 39 = .ok (.if_icmp .ge 32, 3) := by decide +kernel
theorem dX10_dough_42 : decode cX10_dough 42 = .ok (.aload_n 0, 1) := by decide +kernel
theorem dX10_dough_43 : decode cX10_dough 43 = .ok (.getfield 7, 3) := by decide +kernel
theorem dX10_dough_46 : decode cX10_dough 46 = .ok (.bipush 75, 2) := by decide +kernel
theorem dX10_dough_48 : decode cX10_dough 48 = .ok (.bipush 96, 2) := by decide +kernel
theorem dX10_dough_50 : decode cX10_dough 50 = .ok (.iload_n 3, 1) := by decide +kernel
theorem dX10_dough_51 : decode cX10_dough 51 = .ok (.imul, 1) := by decide +kernel
theorem dX10_dough_52 : decode cX10_dough 52 = .ok (.iadd, 1) := by decide +kernel
theorem dX10_dough_53 : decode cX10_dough 53 = .ok (.iconst 1, 1) := by decide +kernel
theorem dX10_dough_54 : decode cX10_dough 54 = .ok (.iadd, 1) := by decide +kernel
theorem dX10_dough_55 : decode cX10_dough 55 = .ok (.bipush 11, 2) := by decide +kernel
theorem dX10_dough_57 : decode cX10_dough 57 = .ok (.iadd, 1) := by decide +kernel
theorem dX10_dough_58 : decode cX10_dough 58 = .ok (.iload_n 1, 1) := by decide +kernel
theorem dX10_dough_59 : decode cX10_dough 59 = .ok (.iadd, 1) := by decide +kernel
theorem dX10_dough_60 : decode cX10_dough 60 = .ok (.bipush 6, 2) := by decide +kernel
theorem dX10_dough_62 : decode cX10_dough 62 = .ok (.isub, 1) := by decide +kernel
theorem dX10_dough_63 : decode cX10_dough 63 = .ok (.iload_n 2, 1) := by decide +kernel
theorem dX10_dough_64 : decode cX10_dough 64 = .ok (.iastore, 1) := by decide +kernel
theorem dX10_dough_65 : decode cX10_dough 65 = .ok (.iinc 3 1, 3) := by decide +kernel
theorem dX10_dough_68 : decode cX10_dough 68 = .ok (.goto (-36), 3) := by decide +kernel
theorem dX10_dough_71 : decode cX10_dough 71 = .ok (.iconst 1, 1) := by decide +kernel
theorem dX10_dough_72 : decode cX10_dough 72 = .ok (.ireturn, 1) := by decide +kernel
theorem dX10_town_0 : decode cX10_town 0 = .ok (.iload_n 1, 1) := by decide +kernel
theorem dX10_town_1 : decode cX10_town 1 = .ok (.invokestatic 67, 3) := by decide +kernel
theorem dX10_town_4 : decode cX10_town 4 = .ok (.ifCond .eq 14, 3) := by decide +kernel
theorem dX10_town_7 : decode cX10_town 7 = .ok (.aload_n 0, 1) := by decide +kernel
theorem dX10_town_8 : decode cX10_town 8 = .ok (.getfield 7, 3) := by decide +kernel
theorem dX10_town_11 : decode cX10_town 11 = .ok (.iconst 1, 1) := by decide +kernel
theorem dX10_town_12 : decode cX10_town 12 = .ok (.iaload, 1) := by decide +kernel
theorem dX10_town_13 : decode cX10_town 13 = .ok (.bipush 6, 2) := by decide +kernel
theorem dX10_town_15 : decode cX10_town 15 = .ok (.if_icmp .ne 5, 3) := by decide +kernel
theorem dX10_town_18 : decode cX10_town 18 = .ok (.iconst (-1), 1) := by decide +kernel
theorem dX10_town_19 : decode cX10_town 19 = .ok (.ireturn, 1) := by decide +kernel
theorem dX10_town_20 : decode cX10_town 20 = .ok (.aload_n 0, 1) := by decide +kernel
theorem dX10_town_21 : decode cX10_town 21 = .ok (.getfield 7, 3) := by decide +kernel
theorem dX10_town_24 : decode cX10_town 24 = .ok (.bipush 41, 2) := by decide +kernel
theorem dX10_town_26 : decode cX10_town 26 = .ok (.aload_n 0, 1) := by decide +kernel
theorem dX10_town_27 : decode cX10_town 27 = .ok (.getfield 7, 3) := by decide +kernel
theorem dX10_town_30 : decode cX10_town 30 = .ok (.iconst 1, 1) := by decide +kernel
theorem dX10_town_31 : decode cX10_town 31 = .ok (.iaload, 1) := by decide +kernel
theorem dX10_town_32 : decode cX10_town 32 = .ok (.iadd, 1) := by decide +kernel
theorem dX10_town_33 : decode cX10_town 33 = .ok (.iload_n 1, 1) := by decide +kernel
theorem dX10_town_34 : decode cX10_town 34 = .ok (.iastore, 1) := by decide +kernel
theorem dX10_town_35 : decode cX10_town 35 = .ok (.aload_n 0, 1) := by decide +kernel
theorem dX10_town_36 : decode cX10_town 36 = .ok (.getfield 7, 3) := by decide +kernel
theorem dX10_town_39 : decode cX10_town 39 = .ok (.bipush 35, 2) := by decide +kernel
theorem dX10_town_41 : decode cX10_town 41 = .ok (.aload_n 0, 1) := by decide +kernel
theorem dX10_town_42 : decode cX10_town 42 = .ok (.getfield 7, 3) := by decide +kernel
theorem dX10_town_45 : decode cX10_town 45 = .ok (.iconst 1, 1) := by decide +kernel
theorem dX10_town_46 : decode cX10_town 46 = .ok (.iaload, 1) := by decide +kernel
theorem dX10_town_47 : decode cX10_town 47 = .ok (.iadd, 1) := by decide +kernel
theorem dX10_town_48 : decode cX10_town 48 = .ok (.iload_n 1, 1) := by decide +kernel
theorem dX10_town_49 : decode cX10_town 49 = .ok (.iastore, 1) := by decide +kernel
theorem dX10_town_50 : decode cX10_town 50 = .ok (.aload_n 0, 1) := by decide +kernel
theorem dX10_town_51 : decode cX10_town 51 = .ok (.getfield 7, 3) := by decide +kernel
theorem dX10_town_54 : decode cX10_town 54 = .ok (.iconst 1, 1) := by decide +kernel
theorem dX10_town_55 : decode cX10_town 55 = .ok (.dup2, 1) := by decide +kernel
theorem dX10_town_56 : decode cX10_town 56 = .ok (.iaload, 1) := by decide +kernel
theorem dX10_town_57 : decode cX10_town 57 = .ok (.iconst 1, 1) := by decide +kernel
theorem dX10_town_58 : decode cX10_town 58 = .ok (.iadd, 1) := by decide +kernel
theorem dX10_town_59 : decode cX10_town 59 = .ok (.iastore, 1) := by decide +kernel
theorem dX10_town_60 : decode cX10_town 60 = .ok (.aload_n 0, 1) := by decide +kernel
theorem dX10_town_61 : decode cX10_town 61 = .ok (.getfield 7, 3) := by decide +kernel
theorem dX10_town_64 : decode cX10_town 64 = .ok (.iconst 1, 1) := by decide +kernel
theorem dX10_town_65 : decode cX10_town 65 = .ok (.iaload, 1) := by decide +kernel
theorem dX10_town_66 : decode cX10_town 66 = .ok (.iconst 1, 1) := by decide +kernel
theorem dX10_town_67 : decode cX10_town 67 = .ok (.isub, 1) := by decide +kernel
theorem dX10_town_68 : decode cX10_town 68 = .ok (.ireturn, 1) := by decide +kernel
theorem dX10_four_0 : decode cX10_four 0 = .ok (.bipush 24, 2) := by decide +kernel
theorem dX10_four_2 : decode cX10_four 2 = .ok (.istore_n 2, 1) := by decide +kernel
theorem dX10_four_3 : decode cX10_four 3 = .ok (.iload_n 2, 1) := by decide +kernel
theorem dX10_four_4 : decode cX10_four 4 = .ok (.ifCond .lt 35, 3) := by decide +kernel
theorem dX10_four_7 : decode cX10_four 7 = .ok (.aload_n 0, 1) := by decide +kernel
theorem dX10_four_8 : decode cX10_four 8 = .ok (.getfield 19, 3) := by decide +kernel
theorem dX10_four_11 : decode cX10_four 11 = .ok (.aload_n 0, 1) := by decide +kernel
theorem dX10_four_12 : decode cX10_four 12 = .ok (.getfield 71, 3) := by decide +kernel
theorem dX10_four_15 : decode cX10_four 15 = .ok (.iload_n 1, 1) := by decide +kernel
theorem dX10_four_16 : decode cX10_four 16 = .ok (.iload_n 2, 1) := by decide +kernel
theorem dX10_four_17 : decode cX10_four 17 = .ok (.ishr, 1) := by decide +kernel
theorem dX10_four_18 : decode cX10_four 18 = .ok (.sipush 255, 3) := by decide +kernel
theorem dX10_four_21 : decode cX10_four 21 = .ok (.iand, 1) := by decide +kernel
theorem dX10_four_22 : decode cX10_four 22 = .ok (.iastore, 1) := by decide +kernel
theorem dX10_four_23 : decode cX10_four 23 = .ok (.aload_n 0, 1) := by decide +kernel
theorem dX10_four_24 : decode cX10_four 24 = .ok (.dup, 1) := by decide +kernel
theorem dX10_four_25 : decode cX10_four 25 = .ok (.getfield 71, 3) := by decide +kernel
theorem dX10_four_28 : decode cX10_four 28 = .ok (.iconst 1, 1) := by decide +kernel
theorem dX10_four_29 : decode cX10_four 29 = .ok (.iadd, 1) := by decide +kernel
theorem dX10_four_30 : decode cX10_four 30 = .ok (.putfield 71, 3) := by decide +kernel
theorem dX10_four_33 : decode cX10_four 33 = .ok (.iinc 2 (-8), 3) := by decide +kernel
theorem dX10_four_36 : decode cX10_four 36 = .ok (.goto (-33), 3) := by decide +kernel
theorem dX10_four_39 : decode cX10_four 39 = .ok (.return_, 1) := by decide +kernel
theorem dX10_feed_0 : decode cX10_feed 0 = .ok (.aload_n 0, 1) := by decide +kernel
theorem dX10_feed_1 : decode cX10_feed 1 = .ok (.getfield 71, 3) := by decide +kernel
theorem dX10_feed_4 : decode cX10_feed 4 = .ok (.bipush 20, 2) := by decide +kernel
theorem dX10_feed_6 : decode cX10_feed 6 = .ok (.iadd, 1) := by decide +kernel
theorem dX10_feed_7 : decode cX10_feed 7 = .ok (.sipush 300, 3) := by decide +kernel
theorem dX10_feed_10 : decode cX10_feed 10 = .ok (.if_icmp .le 5, 3) := by decide +kernel
theorem dX10_feed_13 : decode cX10_feed 13 = .ok (.iconst (-1), 1) := by decide +kernel
theorem dX10_feed_14 : decode cX10_feed 14 = .ok (.ireturn, 1) := by decide +kernel
theorem dX10_feed_15 : decode cX10_feed 15 = .ok (.aload_n 0, 1) := by decide +kernel
theorem dX10_feed_16 : decode cX10_feed 16 = .ok (.iload_n 1, 1) := by decide +kernel
theorem dX10_feed_17 : decode cX10_feed 17 = .ok (.invokevirtual 74, 3) := by decide +kernel
theorem dX10_feed_20 : decode cX10_feed 20 = .ok (.aload_n 0, 1) := by decide +kernel
theorem dX10_feed_21 : decode cX10_feed 21 = .ok (.iload_n 2, 1) := by decide +kernel
theorem dX10_feed_22 : decode cX10_feed 22 = .ok (.invokevirtual 74, 3) := by decide +kernel
theorem dX10_feed_25 : decode cX10_feed 25 = .ok (.aload_n 0, 1) := by decide +kernel
theorem dX10_feed_26 : decode cX10_feed 26 = .ok (.iload_n 3, 1) := by decide +kernel
theorem dX10_feed_27 : decode cX10_feed 27 = .ok (.invokevirtual 74, 3) := by decide +kernel
theorem dX10_feed_30 : decode cX10_feed 30 = .ok (.aload_n 0, 1) := by decide +kernel
theorem dX10_feed_31 : decode cX10_feed 31 = .ok (.iload 4, 2) := by decide +kernel
theorem dX10_feed_33 : decode cX10_feed 33 = .ok (.invokevirtual 74, 3) := by decide +kernel
theorem dX10_feed_36 : decode cX10_feed 36 = .ok (.aload_n 0, 1) := by decide +kernel
theorem dX10_feed_37 : decode cX10_feed 37 = .ok (.iload 5, 2) := by decide +kernel
theorem dX10_feed_39 : decode cX10_feed 39 = .ok (.invokevirtual 74, 3) := by decide +kernel
theorem dX10_feed_42 : decode cX10_feed 42 = .ok (.aload_n 0, 1) := by decide +kernel
theorem dX10_feed_43 : decode cX10_feed 43 = .ok (.getfield 71, 3) := by decide +kernel
theorem dX10_feed_46 : decode cX10_feed 46 = .ok (.ireturn, 1) := by decide +kernel
theorem dX10_end_0 : decode cX10_end 0 = .ok (.iload_n 1, 1) := by decide +kernel
theorem dX10_end_1 : decode cX10_end 1 = .ok (.iconst 0, 1) := by decide +kernel
theorem dX10_end_2 : decode cX10_end 2 = .ok (.aload_n 0, 1) := by decide +kernel
theorem dX10_end_3 : decode cX10_end 3 = .ok (.getfield 71, 3) := by decide +kernel
theorem dX10_end_6 : decode cX10_end 6 = .ok (.invokestatic 63, 3) := by decide +kernel
theorem dX10_end_9 : decode cX10_end 9 = .ok (.ifCond .ne 5, 3) := by decide +kernel
theorem dX10_end_12 : decode cX10_end 12 = .ok (.iconst (-1), 1) := by decide +kernel
theorem dX10_end_13 : decode cX10_end 13 = .ok (.ireturn, 1) := by decide +kernel
theorem dX10_end_14 : decode cX10_end 14 = .ok (.aload_n 0, 1) := by decide +kernel
theorem dX10_end_15 : decode cX10_end 15 = .ok (.iload_n 1, 1) := by decide +kernel
theorem dX10_end_16 : decode cX10_end 16 = .ok (.putfield 71, 3) := by decide +kernel
theorem dX10_end_19 : decode cX10_end 19 = .ok (.iload_n 1, 1) := by decide +kernel
theorem dX10_end_20 : decode cX10_end 20 = .ok (.ireturn, 1) := by decide +kernel
theorem dX10_byteAt_0 : decode cX10_byteAt 0 = .ok (.iload_n 1, 1) := by decide +kernel
theorem dX10_byteAt_1 : decode cX10_byteAt 1 = .ok (.aload_n 0, 1) := by decide +kernel
theorem dX10_byteAt_2 : decode cX10_byteAt 2 = .ok (.getfield 71, 3) := by decide +kernel
theorem dX10_byteAt_5 : decode cX10_byteAt 5 = .ok (.if_icmp .ge 12, 3) := by decide +kernel
theorem dX10_byteAt_8 : decode cX10_byteAt 8 = .ok (.aload_n 0, 1) := by decide +kernel
theorem dX10_byteAt_9 : decode cX10_byteAt 9 = .ok (.getfield 19, 3) := by decide +kernel
theorem dX10_byteAt_12 : decode cX10_byteAt 12 = .ok (.iload_n 1, 1) := by decide +kernel
theorem dX10_byteAt_13 : decode cX10_byteAt 13 = .ok (.iaload, 1) := by decide +kernel
theorem dX10_byteAt_14 : decode cX10_byteAt 14 = .ok (.goto 4, 3) := by decide +kernel
theorem dX10_byteAt_17 : decode cX10_byteAt 17 = .ok (.iconst (-1), 1) := by decide +kernel
theorem dX10_byteAt_18 : decode cX10_byteAt 18 = .ok (.ireturn, 1) := by decide +kernel
theorem dX10_isLetterByte_0 : decode cX10_isLetterByte 0 = .ok (.iload_n 0, 1) := by decide +kernel
theorem dX10_isLetterByte_1 : decode cX10_isLetterByte 1 = .ok (.bipush 97, 2) := by decide +kernel
theorem dX10_isLetterByte_3 : decode cX10_isLetterByte 3 = .ok (.if_icmp .lt 9, 3) := by decide +kernel
theorem dX10_isLetterByte_6 : decode cX10_isLetterByte 6 = .ok (.iload_n 0, 1) := by decide +kernel
theorem dX10_isLetterByte_7 : decode cX10_isLetterByte 7 = .ok (.bipush 122, 2) := by decide +kernel
theorem dX10_isLetterByte_9 : decode cX10_isLetterByte 9 = .ok (.if_icmp .le 15, 3) := by decide +kernel
theorem dX10_isLetterByte_12 : decode cX10_isLetterByte 12 = .ok (.iload_n 0, 1) := by decide +kernel
theorem dX10_isLetterByte_13 : decode cX10_isLetterByte 13 = .ok (.bipush 65, 2) := by decide +kernel
theorem dX10_isLetterByte_15 : decode cX10_isLetterByte 15 = .ok (.if_icmp .lt 13, 3) := by decide +kernel
theorem dX10_isLetterByte_18 : decode cX10_isLetterByte 18 = .ok (.iload_n 0, 1) := by decide +kernel
theorem dX10_isLetterByte_19 : decode cX10_isLetterByte 19 = .ok (.bipush 90, 2) := by decide +kernel
theorem dX10_isLetterByte_21 : decode cX10_isLetterByte 21 = .ok (.if_icmp .gt 7, 3) := by decide +kernel
theorem dX10_isLetterByte_24 : decode cX10_isLetterByte 24 = .ok (.iconst 1, 1) := by decide +kernel
theorem dX10_isLetterByte_25 : decode cX10_isLetterByte 25 = .ok (.goto 4, 3) := by decide +kernel
theorem dX10_isLetterByte_28 : decode cX10_isLetterByte 28 = .ok (.iconst 0, 1) := by decide +kernel
theorem dX10_isLetterByte_29 : decode cX10_isLetterByte 29 = .ok (.ireturn, 1) := by decide +kernel
theorem dX10_isFigure_0 : decode cX10_isFigure 0 = .ok (.iload_n 0, 1) := by decide +kernel
theorem dX10_isFigure_1 : decode cX10_isFigure 1 = .ok (.bipush 48, 2) := by decide +kernel
theorem dX10_isFigure_3 : decode cX10_isFigure 3 = .ok (.if_icmp .lt 13, 3) := by decide +kernel
theorem dX10_isFigure_6 : decode cX10_isFigure 6 = .ok (.iload_n 0, 1) := by decide +kernel
theorem dX10_isFigure_7 : decode cX10_isFigure 7 = .ok (.bipush 57, 2) := by decide +kernel
theorem dX10_isFigure_9 : decode cX10_isFigure 9 = .ok (.if_icmp .gt 7, 3) := by decide +kernel
theorem dX10_isFigure_12 : decode cX10_isFigure 12 = .ok (.iconst 1, 1) := by decide +kernel
theorem dX10_isFigure_13 : decode cX10_isFigure 13 = .ok (.goto 4, 3) := by decide +kernel
theorem dX10_isFigure_16 : decode cX10_isFigure 16 = .ok (.iconst 0, 1) := by decide +kernel
theorem dX10_isFigure_17 : decode cX10_isFigure 17 = .ok (.ireturn, 1) := by decide +kernel
theorem dX10_isSign_0 : decode cX10_isSign 0 = .ok (.iload_n 0, 1) := by decide +kernel
theorem dX10_isSign_1 : decode cX10_isSign 1 = .ok (.tableswitch 129 35 62 #[127, 129, 129, 129, 129, 127, 127, 127, 127, 129, 127, 129, 127, 129, 129, 129, 129, 129, 129, 129, 129, 129, 129, 127, 127, 127, 127, 127], 127) := by decide +kernel
theorem dX10_isSign_128 : decode cX10_isSign 128 = .ok (.iconst 1, 1) := by decide +kernel
theorem dX10_isSign_129 : decode cX10_isSign 129 = .ok (.ireturn, 1) := by decide +kernel
theorem dX10_isSign_130 : decode cX10_isSign 130 = .ok (.iconst 0, 1) := by decide +kernel
theorem dX10_isSign_131 : decode cX10_isSign 131 = .ok (.ireturn, 1) := by decide +kernel
theorem dX10_nextToken_0 : decode cX10_nextToken 0 = .ok (.aload_n 0, 1) := by decide +kernel
theorem dX10_nextToken_1 : decode cX10_nextToken 1 = .ok (.aload_n 0, 1) := by decide +kernel
theorem dX10_nextToken_2 : decode cX10_nextToken 2 = .ok (.getfield 78, 3) := by decide +kernel
theorem dX10_nextToken_5 : decode cX10_nextToken 5 = .ok (.invokevirtual 81, 3) := by decide +kernel
theorem dX10_nextToken_8 : decode cX10_nextToken 8 = .ok (.bipush 32, 2) := by decide +kernel
theorem dX10_nextToken_10 : decode cX10_nextToken 10 = .ok (.if_icmp .eq 16, 3) := by decide +kernel
theorem dX10_nextToken_13 : decode cX10_nextToken 13 = .ok (.aload_n 0, 1) := by decide +kernel
theorem dX10_nextToken_14 : decode cX10_nextToken 14 = .ok (.aload_n 0, 1) := by decide +kernel
theorem dX10_nextToken_15 : decode cX10_nextToken 15 = .ok (.getfield 78, 3) := by decide +kernel
theorem dX10_nextToken_18 : decode cX10_nextToken 18 = .ok (.invokevirtual 81, 3) := by decide +kernel
theorem dX10_nextToken_21 : decode cX10_nextToken 21 = .ok (.bipush 10, 2) := by decide +kernel
theorem dX10_nextToken_23 : decode cX10_nextToken 23 = .ok (.if_icmp .ne 16, 3) := by decide +kernel
theorem dX10_nextToken_26 : decode cX10_nextToken 26 = .ok (.aload_n 0, 1) := by decide +kernel
theorem dX10_nextToken_27 : decode cX10_nextToken 27 = .ok (.dup, 1) := by decide +kernel
theorem dX10_nextToken_28 : decode cX10_nextToken 28 = .ok (.getfield 78, 3) := by decide +kernel
theorem dX10_nextToken_31 : decode cX10_nextToken 31 = .ok (.iconst 1, 1) := by decide +kernel
theorem dX10_nextToken_32 : decode cX10_nextToken 32 = .ok (.iadd, 1) := by decide +kernel
theorem dX10_nextToken_33 : decode cX10_nextToken 33 = .ok (.putfield 78, 3) := by decide +kernel
theorem dX10_nextToken_36 : decode cX10_nextToken 36 = .ok (.goto (-36), 3) := by decide +kernel
theorem dX10_nextToken_39 : decode cX10_nextToken 39 = .ok (.aload_n 0, 1) := by decide +kernel
theorem dX10_nextToken_40 : decode cX10_nextToken 40 = .ok (.aload_n 0, 1) := by decide +kernel
theorem dX10_nextToken_41 : decode cX10_nextToken 41 = .ok (.getfield 78, 3) := by decide +kernel
theorem dX10_nextToken_44 : decode cX10_nextToken 44 = .ok (.putfield 85, 3) := by decide +kernel
theorem dX10_nextToken_47 : decode cX10_nextToken 47 = .ok (.aload_n 0, 1) := by decide +kernel
theorem dX10_nextToken_48 : decode cX10_nextToken 48 = .ok (.aload_n 0, 1) := by decide +kernel
theorem dX10_nextToken_49 : decode cX10_nextToken 49 = .ok (.getfield 78, 3) := by decide +kernel
theorem dX10_nextToken_52 : decode cX10_nextToken 52 = .ok (.invokevirtual 81, 3) := by decide +kernel
theorem dX10_nextToken_55 : decode cX10_nextToken 55 = .ok (.istore_n 1, 1) := by decide +kernel
theorem dX10_nextToken_56 : decode cX10_nextToken 56 = .ok (.iload_n 1, 1) := by decide +kernel
theorem dX10_nextToken_57 : decode cX10_nextToken 57 = .ok (.ifCond .ge 11, 3) := by decide +kernel
theorem dX10_nextToken_60 : decode cX10_nextToken 60 = .ok (.aload_n 0, 1) := by decide +kernel
theorem dX10_nextToken_61 : decode cX10_nextToken 61 = .ok (.iconst 0, 1) := by decide +kernel
theorem dX10_nextToken_62 : decode cX10_nextToken 62 = .ok (.putfield 88, 3) := by decide +kernel
theorem dX10_nextToken_65 : decode cX10_nextToken 65 = .ok (.goto 245, 3) := by decide +kernel
theorem dX10_nextToken_68 : decode cX10_nextToken 68 = .ok (.iload_n 1, 1) := by decide +kernel
theorem dX10_nextToken_69 : decode cX10_nextToken 69 = .ok (.invokestatic 91, 3) := by decide +kernel
theorem dX10_nextToken_72 : decode cX10_nextToken 72 = .ok (.ifCond .eq 79, 3) := by decide +kernel
theorem dX10_nextToken_75 : decode cX10_nextToken 75 = .ok (.aload_n 0, 1) := by decide +kernel
theorem dX10_nextToken_76 : decode cX10_nextToken 76 = .ok (.iconst 1, 1) := by decide +kernel
theorem dX10_nextToken_77 : decode cX10_nextToken 77 = .ok (.putfield 88, 3) := by decide +kernel
theorem dX10_nextToken_80 : decode cX10_nextToken 80 = .ok (.aload_n 0, 1) := by decide +kernel
theorem dX10_nextToken_81 : decode cX10_nextToken 81 = .ok (.iconst 0, 1) := by decide +kernel
theorem dX10_nextToken_82 : decode cX10_nextToken 82 = .ok (.putfield 94, 3) := by decide +kernel
theorem dX10_nextToken_85 : decode cX10_nextToken 85 = .ok (.aload_n 0, 1) := by decide +kernel
theorem dX10_nextToken_86 : decode cX10_nextToken 86 = .ok (.aload_n 0, 1) := by decide +kernel
theorem dX10_nextToken_87 : decode cX10_nextToken 87 = .ok (.getfield 78, 3) := by decide +kernel
theorem dX10_nextToken_90 : decode cX10_nextToken 90 = .ok (.invokevirtual 81, 3) := by decide +kernel
theorem dX10_nextToken_93 : decode cX10_nextToken 93 = .ok (.invokestatic 91, 3) := by decide +kernel
theorem dX10_nextToken_96 : decode cX10_nextToken 96 = .ok (.ifCond .eq 214, 3) := by decide +kernel
theorem dX10_nextToken_99 : decode cX10_nextToken 99 = .ok (.aload_n 0, 1) := by decide +kernel
theorem dX10_nextToken_100 : decode cX10_nextToken 100 = .ok (.aload_n 0, 1) := by decide +kernel
theorem dX10_nextToken_101 : decode cX10_nextToken 101 = .ok (.getfield 94, 3) := by decide +kernel
theorem dX10_nextToken_104 : decode cX10_nextToken 104 = .ok (.ldc 97, 2) := by decide +kernel
theorem dX10_nextToken_106 : decode cX10_nextToken 106 = .ok (.if_icmp .le 10, 3) := by decide +kernel
theorem dX10_nextToken_109 : decode cX10_nextToken 109 = .ok (.aload_n 0, 1) := by decide +kernel
theorem dX10_nextToken_110 : decode cX10_nextToken 110 = .ok (.getfield 94, 3) := by decide +kernel
theorem dX10_nextToken_113 : decode cX10_nextToken 113 = .ok (.goto 22, 3) := by decide +kernel
theorem dX10_nextToken_116 : decode cX10_nextToken 116 = .ok (.bipush 10, 2) := by decide +kernel
theorem dX10_nextToken_118 : decode cX10_nextToken 118 = .ok (.aload_n 0, 1) := by decide +kernel
theorem dX10_nextToken_119 : decode cX10_nextToken 119 = .ok (.getfield 94, 3) := by decide +kernel
theorem dX10_nextToken_122 : decode cX10_nextToken 122 = .ok (.imul, 1) := by decide +kernel
theorem dX10_nextToken_123 : decode cX10_nextToken 123 = .ok (.aload_n 0, 1) := by decide +kernel
theorem dX10_nextToken_124 : decode cX10_nextToken 124 = .ok (.aload_n 0, 1) := by decide +kernel
theorem dX10_nextToken_125 : decode cX10_nextToken 125 = .ok (.getfield 78, 3) := by decide +kernel
theorem dX10_nextToken_128 : decode cX10_nextToken 128 = .ok (.invokevirtual 81, 3) := by decide +kernel
theorem dX10_nextToken_131 : decode cX10_nextToken 131 = .ok (.iadd, 1) := by decide +kernel
theorem dX10_nextToken_132 : decode cX10_nextToken 132 = .ok (.bipush 48, 2) := by decide +kernel
theorem dX10_nextToken_134 : decode cX10_nextToken 134 = .ok (.isub, 1) := by decide +kernel
theorem dX10_nextToken_135 : decode cX10_nextToken 135 = .ok (.putfield 94, 3) := by decide +kernel
theorem dX10_nextToken_138 : decode cX10_nextToken 138 = .ok (.aload_n 0, 1) := by decide +kernel
theorem dX10_nextToken_139 : decode cX10_nextToken 139 = .ok (.dup, 1) := by decide +kernel
theorem dX10_nextToken_140 : decode cX10_nextToken 140 = .ok (.getfield 78, 3) := by decide +kernel
theorem dX10_nextToken_143 : decode cX10_nextToken 143 = .ok (.iconst 1, 1) := by decide +kernel
theorem dX10_nextToken_144 : decode cX10_nextToken 144 = .ok (.iadd, 1) := by decide +kernel
theorem dX10_nextToken_145 : decode cX10_nextToken 145 = .ok (.putfield 78, 3) := by decide +kernel
theorem dX10_nextToken_148 : decode cX10_nextToken 148 = .ok (.goto (-63), 3) := by decide +kernel
theorem dX10_nextToken_151 : decode cX10_nextToken 151 = .ok (.iload_n 1, 1) := by decide +kernel
theorem dX10_nextToken_152 : decode cX10_nextToken 152 = .ok (.invokestatic 98, 3) := by decide +kernel
theorem dX10_nextToken_155 : decode cX10_nextToken 155 = .ok (.ifCond .eq 79, 3) := by decide +kernel
theorem dX10_nextToken_158 : decode cX10_nextToken 158 = .ok (.aload_n 0, 1) := by decide +kernel
theorem dX10_nextToken_159 : decode cX10_nextToken 159 = .ok (.iconst 2, 1) := by decide +kernel
theorem dX10_nextToken_160 : decode cX10_nextToken 160 = .ok (.putfield 88, 3) := by decide +kernel
theorem dX10_nextToken_163 : decode cX10_nextToken 163 = .ok (.aload_n 0, 1) := by decide +kernel
theorem dX10_nextToken_164 : decode cX10_nextToken 164 = .ok (.lconst 0, 1) := by decide +kernel
theorem dX10_nextToken_165 : decode cX10_nextToken 165 = .ok (.putfield 101, 3) := by decide +kernel
theorem dX10_nextToken_168 : decode cX10_nextToken 168 = .ok (.aload_n 0, 1) := by decide +kernel
theorem dX10_nextToken_169 : decode cX10_nextToken 169 = .ok (.aload_n 0, 1) := by decide +kernel
theorem dX10_nextToken_170 : decode cX10_nextToken 170 = .ok (.getfield 78, 3) := by decide +kernel
theorem dX10_nextToken_173 : decode cX10_nextToken 173 = .ok (.invokevirtual 81, 3) := by decide +kernel
theorem dX10_nextToken_176 : decode cX10_nextToken 176 = .ok (.invokestatic 98, 3) := by decide +kernel
theorem dX10_nextToken_179 : decode cX10_nextToken 179 = .ok (.ifCond .eq 131, 3) := by decide +kernel
theorem dX10_nextToken_182 : decode cX10_nextToken 182 = .ok (.aload_n 0, 1) := by decide +kernel
theorem dX10_nextToken_183 : decode cX10_nextToken 183 = .ok (.aload_n 0, 1) := by decide +kernel
theorem dX10_nextToken_184 : decode cX10_nextToken 184 = .ok (.getfield 101, 3) := by decide +kernel
theorem dX10_nextToken_187 : decode cX10_nextToken 187 = .ok (.bipush 48, 2) := by decide +kernel
theorem dX10_nextToken_189 : decode cX10_nextToken 189 = .ok (.lshr, 1) := by decide +kernel
theorem dX10_nextToken_190 : decode cX10_nextToken 190 = .ok (.lconst 0, 1) := by decide +kernel
theorem dX10_nextToken_191 : decode cX10_nextToken 191 = .ok (.lcmp, 1) := by decide +kernel
theorem dX10_nextToken_192 : decode cX10_nextToken 192 = .ok (.ifCond .eq 9, 3) := by decide +kernel
theorem dX10_nextToken_195 : decode cX10_nextToken 195 = .ok (.ldc2_w 105, 3) := by decide +kernel
theorem dX10_nextToken_198 : decode cX10_nextToken 198 = .ok (.goto 20, 3) := by decide +kernel
theorem dX10_nextToken_201 : decode cX10_nextToken 201 = .ok (.aload_n 0, 1) := by decide +kernel
theorem dX10_nextToken_202 : decode cX10_nextToken 202 = .ok (.getfield 101, 3) := by decide +kernel
theorem dX10_nextToken_205 : decode cX10_nextToken 205 = .ok (.bipush 8, 2) := by decide +kernel
theorem dX10_nextToken_207 : decode cX10_nextToken 207 = .ok (.lshl, 1) := by decide +kernel
theorem dX10_nextToken_208 : decode cX10_nextToken 208 = .ok (.aload_n 0, 1) := by decide +kernel
theorem dX10_nextToken_209 : decode cX10_nextToken 209 = .ok (.aload_n 0, 1) := by decide +kernel
theorem dX10_nextToken_210 : decode cX10_nextToken 210 = .ok (.getfield 78, 3) := by decide +kernel
theorem dX10_nextToken_213 : decode cX10_nextToken 213 = .ok (.invokevirtual 81, 3) := by decide +kernel
theorem dX10_nextToken_216 : decode cX10_nextToken 216 = .ok (.i2l, 1) := by decide +kernel
theorem dX10_nextToken_217 : decode cX10_nextToken 217 = .ok (.lor, 1) := by decide +kernel
theorem dX10_nextToken_218 : decode cX10_nextToken 218 = .ok (.putfield 101, 3) := by decide +kernel
theorem dX10_nextToken_221 : decode cX10_nextToken 221 = .ok (.aload_n 0, 1) := by decide +kernel
theorem dX10_nextToken_222 : decode cX10_nextToken 222 = .ok (.dup, 1) := by decide +kernel
theorem dX10_nextToken_223 : decode cX10_nextToken 223 = .ok (.getfield 78, 3) := by decide +kernel
theorem dX10_nextToken_226 : decode cX10_nextToken 226 = .ok (.iconst 1, 1) := by decide +kernel
theorem dX10_nextToken_227 : decode cX10_nextToken 227 = .ok (.iadd, 1) := by decide +kernel
theorem dX10_nextToken_228 : decode cX10_nextToken 228 = .ok (.putfield 78, 3) := by decide +kernel
theorem dX10_nextToken_231 : decode cX10_nextToken 231 = .ok (.goto (-63), 3) := by decide +kernel
theorem dX10_nextToken_234 : decode cX10_nextToken 234 = .ok (.aload_n 0, 1) := by decide +kernel
theorem dX10_nextToken_235 : decode cX10_nextToken 235 = .ok (.iload_n 1, 1) := by decide +kernel
theorem dX10_nextToken_236 : decode cX10_nextToken 236 = .ok (.invokestatic 107, 3) := by decide +kernel
theorem dX10_nextToken_239 : decode cX10_nextToken 239 = .ok (.ifCond .eq 7, 3) := by decide +kernel
theorem dX10_nextToken_242 : decode cX10_nextToken 242 = .ok (.iload_n 1, 1) := by decide +kernel
theorem dX10_nextToken_243 : decode cX10_nextToken 243 = .ok (.goto 4, 3) := by decide +kernel
theorem dX10_nextToken_246 : decode cX10_nextToken 246 = .ok (.iconst 3, 1) := by decide +kernel
theorem dX10_nextToken_247 : decode cX10_nextToken 247 = .ok (.putfield 88, 3) := by decide +kernel
theorem dX10_nextToken_250 : decode cX10_nextToken 250 = .ok (.aload_n 0, 1) := by decide +kernel
theorem dX10_nextToken_251 : decode cX10_nextToken 251 = .ok (.dup, 1) := by decide +kernel
theorem dX10_nextToken_252 : decode cX10_nextToken 252 = .ok (.getfield 78, 3) := by decide +kernel
theorem dX10_nextToken_255 : decode cX10_nextToken 255 = .ok (.iconst 1, 1) := by decide +kernel
theorem dX10_nextToken_256 : decode cX10_nextToken 256 = .ok (.iadd, 1) := by decide +kernel
theorem dX10_nextToken_257 : decode cX10_nextToken 257 = .ok (.putfield 78, 3) := by decide +kernel
theorem dX10_nextToken_260 : decode cX10_nextToken 260 = .ok (.iload_n 1, 1) := by decide +kernel
theorem dX10_nextToken_261 : decode cX10_nextToken 261 = .ok (.bipush 60, 2) := by decide +kernel
theorem dX10_nextToken_263 : decode cX10_nextToken 263 = .ok (.if_icmp .eq 9, 3) := by decide +kernel
theorem dX10_nextToken_266 : decode cX10_nextToken 266 = .ok (.iload_n 1, 1) := by decide +kernel
theorem dX10_nextToken_267 : decode cX10_nextToken 267 = .ok (.bipush 62, 2) := by decide +kernel
theorem dX10_nextToken_269 : decode cX10_nextToken 269 = .ok (.if_icmp .ne 41, 3) := by decide +kernel
theorem dX10_nextToken_272 : decode cX10_nextToken 272 = .ok (.aload_n 0, 1) := by decide +kernel
theorem dX10_nextToken_273 : decode cX10_nextToken 273 = .ok (.aload_n 0, 1) := by decide +kernel
theorem dX10_nextToken_274 : decode cX10_nextToken 274 = .ok (.getfield 78, 3) := by decide +kernel
theorem dX10_nextToken_277 : decode cX10_nextToken 277 = .ok (.invokevirtual 81, 3) := by decide +kernel
theorem dX10_nextToken_280 : decode cX10_nextToken 280 = .ok (.bipush 61, 2) := by decide +kernel
theorem dX10_nextToken_282 : decode cX10_nextToken 282 = .ok (.if_icmp .ne 28, 3) := by decide +kernel
theorem dX10_nextToken_285 : decode cX10_nextToken 285 = .ok (.aload_n 0, 1) := by decide +kernel
theorem dX10_nextToken_286 : decode cX10_nextToken 286 = .ok (.iload_n 1, 1) := by decide +kernel
theorem dX10_nextToken_287 : decode cX10_nextToken 287 = .ok (.bipush 60, 2) := by decide +kernel
theorem dX10_nextToken_289 : decode cX10_nextToken 289 = .ok (.if_icmp .ne 7, 3) := by decide +kernel
theorem dX10_nextToken_292 : decode cX10_nextToken 292 = .ok (.iconst 4, 1) := by decide +kernel
theorem dX10_nextToken_293 : decode cX10_nextToken 293 = .ok (.goto 4, 3) := by decide +kernel
theorem dX10_nextToken_296 : decode cX10_nextToken 296 = .ok (.iconst 5, 1) := by decide +kernel
theorem dX10_nextToken_297 : decode cX10_nextToken 297 = .ok (.putfield 88, 3) := by decide +kernel
theorem dX10_nextToken_300 : decode cX10_nextToken 300 = .ok (.aload_n 0, 1) := by decide +kernel
theorem dX10_nextToken_301 : decode cX10_nextToken 301 = .ok (.dup, 1) := by decide +kernel
theorem dX10_nextToken_302 : decode cX10_nextToken 302 = .ok (.getfield 78, 3) := by decide +kernel
theorem dX10_nextToken_305 : decode cX10_nextToken 305 = .ok (.iconst 1, 1) := by decide +kernel
theorem dX10_nextToken_306 : decode cX10_nextToken 306 = .ok (.iadd, 1) := by decide +kernel
theorem dX10_nextToken_307 : decode cX10_nextToken 307 = .ok (.putfield 78, 3) := by decide +kernel
theorem dX10_nextToken_310 : decode cX10_nextToken 310 = .ok (.return_, 1) := by decide +kernel
theorem dX10_w2_0 : decode cX10_w2 0 = .ok (.iload_n 0, 1) := by decide +kernel
theorem dX10_w2_1 : decode cX10_w2 1 = .ok (.i2l, 1) := by decide +kernel
theorem dX10_w2_2 : decode cX10_w2 2 = .ok (.bipush 8, 2) := by decide +kernel
theorem dX10_w2_4 : decode cX10_w2 4 = .ok (.lshl, 1) := by decide +kernel
theorem dX10_w2_5 : decode cX10_w2 5 = .ok (.iload_n 1, 1) := by decide +kernel
theorem dX10_w2_6 : decode cX10_w2 6 = .ok (.i2l, 1) := by decide +kernel
theorem dX10_w2_7 : decode cX10_w2 7 = .ok (.lor, 1) := by decide +kernel
theorem dX10_w2_8 : decode cX10_w2 8 = .ok (.lreturn, 1) := by decide +kernel
theorem dX10_w3_0 : decode cX10_w3 0 = .ok (.iload_n 0, 1) := by decide +kernel
theorem dX10_w3_1 : decode cX10_w3 1 = .ok (.iload_n 1, 1) := by decide +kernel
theorem dX10_w3_2 : decode cX10_w3 2 = .ok (.invokestatic 110, 3) := by decide +kernel
theorem dX10_w3_5 : decode cX10_w3 5 = .ok (.bipush 8, 2) := by decide +kernel
theorem dX10_w3_7 : decode cX10_w3 7 = .ok (.lshl, 1) := by decide +kernel
theorem dX10_w3_8 : decode cX10_w3 8 = .ok (.iload_n 2, 1) := by decide +kernel
theorem dX10_w3_9 : decode cX10_w3 9 = .ok (.i2l, 1) := by decide +kernel
theorem dX10_w3_10 : decode cX10_w3 10 = .ok (.lor, 1) := by decide +kernel
theorem dX10_w3_11 : decode cX10_w3 11 = .ok (.lreturn, 1) := by decide +kernel
theorem dX10_w4_0 : decode cX10_w4 0 = .ok (.iload_n 0, 1) := by decide +kernel
theorem dX10_w4_1 : decode cX10_w4 1 = .ok (.iload_n 1, 1) := by decide +kernel
theorem dX10_w4_2 : decode cX10_w4 2 = .ok (.iload_n 2, 1) := by decide +kernel
theorem dX10_w4_3 : decode cX10_w4 3 = .ok (.invokestatic 114, 3) := by decide +kernel
theorem dX10_w4_6 : decode cX10_w4 6 = .ok (.bipush 8, 2) := by decide +kernel
theorem dX10_w4_8 : decode cX10_w4 8 = .ok (.lshl, 1) := by decide +kernel
theorem dX10_w4_9 : decode cX10_w4 9 = .ok (.iload_n 3, 1) := by decide +kernel
theorem dX10_w4_10 : decode cX10_w4 10 = .ok (.i2l, 1) := by decide +kernel
theorem dX10_w4_11 : decode cX10_w4 11 = .ok (.lor, 1) := by decide +kernel
theorem dX10_w4_12 : decode cX10_w4 12 = .ok (.lreturn, 1) := by decide +kernel
theorem dX10_w5_0 : decode cX10_w5 0 = .ok (.iload_n 0, 1) := by decide +kernel
theorem dX10_w5_1 : decode cX10_w5 1 = .ok (.iload_n 1, 1) := by decide +kernel
theorem dX10_w5_2 : decode cX10_w5 2 = .ok (.iload_n 2, 1) := by decide +kernel
theorem dX10_w5_3 : decode cX10_w5 3 = .ok (.iload_n 3, 1) := by decide +kernel
theorem dX10_w5_4 : decode cX10_w5 4 = .ok (.invokestatic 118, 3) := by decide +kernel
theorem dX10_w5_7 : decode cX10_w5 7 = .ok (.bipush 8, 2) := by decide +kernel
theorem dX10_w5_9 : decode cX10_w5 9 = .ok (.lshl, 1) := by decide +kernel
theorem dX10_w5_10 : decode cX10_w5 10 = .ok (.iload 4, 2) := by decide +kernel
theorem dX10_w5_12 : decode cX10_w5 12 = .ok (.i2l, 1) := by decide +kernel
theorem dX10_w5_13 : decode cX10_w5 13 = .ok (.lor, 1) := by decide +kernel
theorem dX10_w5_14 : decode cX10_w5 14 = .ok (.lreturn, 1) := by decide +kernel
theorem dX10_w6_0 : decode cX10_w6 0 = .ok (.iload_n 0, 1) := by decide +kernel
theorem dX10_w6_1 : decode cX10_w6 1 = .ok (.iload_n 1, 1) := by decide +kernel
theorem dX10_w6_2 : decode cX10_w6 2 = .ok (.iload_n 2, 1) := by decide +kernel
theorem dX10_w6_3 : decode cX10_w6 3 = .ok (.iload_n 3, 1) := by decide +kernel
theorem dX10_w6_4 : decode cX10_w6 4 = .ok (.iload 4, 2) := by decide +kernel
theorem dX10_w6_6 : decode cX10_w6 6 = .ok (.invokestatic 122, 3) := by decide +kernel
theorem dX10_w6_9 : decode cX10_w6 9 = .ok (.bipush 8, 2) := by decide +kernel
theorem dX10_w6_11 : decode cX10_w6 11 = .ok (.lshl, 1) := by decide +kernel
theorem dX10_w6_12 : decode cX10_w6 12 = .ok (.iload 5, 2) := by decide +kernel
theorem dX10_w6_14 : decode cX10_w6 14 = .ok (.i2l, 1) := by decide +kernel
theorem dX10_w6_15 : decode cX10_w6 15 = .ok (.lor, 1) := by decide +kernel
theorem dX10_w6_16 : decode cX10_w6 16 = .ok (.lreturn, 1) := by decide +kernel
theorem dX10_isWord_0 : decode cX10_isWord 0 = .ok (.aload_n 0, 1) := by decide +kernel
theorem dX10_isWord_1 : decode cX10_isWord 1 = .ok (.getfield 88, 3) := by decide +kernel
theorem dX10_isWord_4 : decode cX10_isWord 4 = .ok (.iconst 2, 1) := by decide +kernel
theorem dX10_isWord_5 : decode cX10_isWord 5 = .ok (.if_icmp .ne 16, 3) := by decide +kernel
theorem dX10_isWord_8 : decode cX10_isWord 8 = .ok (.aload_n 0, 1) := by decide +kernel
theorem dX10_isWord_9 : decode cX10_isWord 9 = .ok (.getfield 101, 3) := by decide +kernel
theorem dX10_isWord_12 : decode cX10_isWord 12 = .ok (.lload_n 1, 1) := by decide +kernel
theorem dX10_isWord_13 : decode cX10_isWord 13 = .ok (.lcmp, 1) := by decide +kernel
theorem dX10_isWord_14 : decode cX10_isWord 14 = .ok (.ifCond .ne 7, 3) := by decide +kernel
theorem dX10_isWord_17 : decode cX10_isWord 17 = .ok (.iconst 1, 1) := by decide +kernel
theorem dX10_isWord_18 : decode cX10_isWord 18 = .ok (.goto 4, 3) := by decide +kernel
theorem dX10_isWord_21 : decode cX10_isWord 21 = .ok (.iconst 0, 1) := by decide +kernel
theorem dX10_isWord_22 : decode cX10_isWord 22 = .ok (.ireturn, 1) := by decide +kernel
theorem dX10_emit_0 : decode cX10_emit 0 = .ok (.aload_n 0, 1) := by decide +kernel
theorem dX10_emit_1 : decode cX10_emit 1 = .ok (.getfield 16, 3) := by decide +kernel
theorem dX10_emit_4 : decode cX10_emit 4 = .ok (.aload_n 0, 1) := by decide +kernel
theorem dX10_emit_5 : decode cX10_emit 5 = .ok (.getfield 126, 3) := by decide +kernel
theorem dX10_emit_8 : decode cX10_emit 8 = .ok (.bipush 73, 2) := by decide +kernel
theorem dX10_emit_10 : decode cX10_emit 10 = .ok (.iadd, 1) := by decide +kernel
theorem dX10_emit_11 : decode cX10_emit 11 = .ok (.iconst 2, 1) := by decide +kernel
theorem dX10_emit_12 : decode cX10_emit 12 = .ok (.aload_n 0, 1) := by decide +kernel
theorem dX10_emit_13 : decode cX10_emit 13 = .ok (.getfield 129, 3) := by decide +kernel
theorem dX10_emit_16 : decode cX10_emit 16 = .ok (.imul, 1) := by decide +kernel
theorem dX10_emit_17 : decode cX10_emit 17 = .ok (.iadd, 1) := by decide +kernel
theorem dX10_emit_18 : decode cX10_emit 18 = .ok (.iload_n 1, 1) := by decide +kernel
theorem dX10_emit_19 : decode cX10_emit 19 = .ok (.iastore, 1) := by decide +kernel
theorem dX10_emit_20 : decode cX10_emit 20 = .ok (.aload_n 0, 1) := by decide +kernel
theorem dX10_emit_21 : decode cX10_emit 21 = .ok (.getfield 16, 3) := by decide +kernel
theorem dX10_emit_24 : decode cX10_emit 24 = .ok (.aload_n 0, 1) := by decide +kernel
theorem dX10_emit_25 : decode cX10_emit 25 = .ok (.getfield 126, 3) := by decide +kernel
theorem dX10_emit_28 : decode cX10_emit 28 = .ok (.bipush 73, 2) := by decide +kernel
theorem dX10_emit_30 : decode cX10_emit 30 = .ok (.iadd, 1) := by decide +kernel
theorem dX10_emit_31 : decode cX10_emit 31 = .ok (.iconst 2, 1) := by decide +kernel
theorem dX10_emit_32 : decode cX10_emit 32 = .ok (.aload_n 0, 1) := by decide +kernel
theorem dX10_emit_33 : decode cX10_emit 33 = .ok (.getfield 129, 3) := by decide +kernel
theorem dX10_emit_36 : decode cX10_emit 36 = .ok (.imul, 1) := by decide +kernel
theorem dX10_emit_37 : decode cX10_emit 37 = .ok (.iadd, 1) := by decide +kernel
theorem dX10_emit_38 : decode cX10_emit 38 = .ok (.iconst 1, 1) := by decide +kernel
theorem dX10_emit_39 : decode cX10_emit 39 = .ok (.iadd, 1) := by decide +kernel
theorem dX10_emit_40 : decode cX10_emit 40 = .ok (.iload_n 2, 1) := by decide +kernel
theorem dX10_emit_41 : decode cX10_emit 41 = .ok (.iastore, 1) := by decide +kernel
theorem dX10_emit_42 : decode cX10_emit 42 = .ok (.aload_n 0, 1) := by decide +kernel
theorem dX10_emit_43 : decode cX10_emit 43 = .ok (.dup, 1) := by decide +kernel
theorem dX10_emit_44 : decode cX10_emit 44 = .ok (.getfield 129, 3) := by decide +kernel
theorem dX10_emit_47 : decode cX10_emit 47 = .ok (.iconst 1, 1) := by decide +kernel
theorem dX10_emit_48 : decode cX10_emit 48 = .ok (.iadd, 1) := by decide +kernel
theorem dX10_emit_49 : decode cX10_emit 49 = .ok (.putfield 129, 3) := by decide +kernel
theorem dX10_emit_52 : decode cX10_emit 52 = .ok (.return_, 1) := by decide +kernel
theorem dX10_isStrength_0 : decode cX10_isStrength 0 = .ok (.aload_n 0, 1) := by decide +kernel
theorem dX10_isStrength_1 : decode cX10_isStrength 1 = .ok (.getfield 88, 3) := by decide +kernel
theorem dX10_isStrength_4 : decode cX10_isStrength 4 = .ok (.iconst 2, 1) := by decide +kernel
theorem dX10_isStrength_5 : decode cX10_isStrength 5 = .ok (.if_icmp .ne 137, 3) := by decide +kernel
theorem dX10_isStrength_8 : decode cX10_isStrength 8 = .ok (.aload_n 0, 1) := by decide +kernel
theorem dX10_isStrength_9 : decode cX10_isStrength 9 = .ok (.getfield 78, 3) := by decide +kernel
theorem dX10_isStrength_12 : decode cX10_isStrength 12 = .ok (.aload_n 0, 1) := by decide +kernel
theorem dX10_isStrength_13 : decode cX10_isStrength 13 = .ok (.getfield 85, 3) := by decide +kernel
theorem dX10_isStrength_16 : decode cX10_isStrength 16 = .ok (.isub, 1) := by decide +kernel
theorem dX10_isStrength_17 : decode cX10_isStrength 17 = .ok (.bipush 8, 2) := by decide +kernel
theorem dX10_isStrength_19 : decode cX10_isStrength 19 = .ok (.if_icmp .ne 123, 3) := by decide +kernel
theorem dX10_isStrength_22 : decode cX10_isStrength 22 = .ok (.aload_n 0, 1) := by decide +kernel
theorem dX10_isStrength_23 : decode cX10_isStrength 23 = .ok (.aload_n 0, 1) := by decide +kernel
theorem dX10_isStrength_24 : decode cX10_isStrength 24 = .ok (.getfield 85, 3) := by decide +kernel
theorem dX10_isStrength_27 : decode cX10_isStrength 27 = .ok (.invokevirtual 81, 3) := by decide +kernel
theorem dX10_isStrength_30 : decode cX10_isStrength 30 = .ok (.aload_n 0, 1) := by decide +kernel
theorem dX10_isStrength_31 : decode cX10_isStrength 31 = .ok (.aload_n 0, 1) := by decide +kernel
theorem dX10_isStrength_32 : decode cX10_isStrength 32 = .ok (.getfield 85, 3) := by decide +kernel
theorem dX10_isStrength_35 : decode cX10_isStrength 35 = .ok (.iconst 1, 1) := by decide +kernel
theorem dX10_isStrength_36 : decode cX10_isStrength 36 = .ok (.iadd, 1) := by decide +kernel
theorem dX10_isStrength_37 : decode cX10_isStrength 37 = .ok (.invokevirtual 81, 3) := by decide +kernel
theorem dX10_isStrength_40 : decode cX10_isStrength 40 = .ok (.aload_n 0, 1) := by decide +kernel
theorem dX10_isStrength_41 : decode cX10_isStrength 41 = .ok (.aload_n 0, 1) := by decide +kernel
theorem dX10_isStrength_42 : decode cX10_isStrength 42 = .ok (.getfield 85, 3) := by decide +kernel
theorem dX10_isStrength_45 : decode cX10_isStrength 45 = .ok (.iconst 2, 1) := by decide +kernel
theorem dX10_isStrength_46 : decode cX10_isStrength 46 = .ok (.iadd, 1) := by decide +kernel
theorem dX10_isStrength_47 : decode cX10_isStrength 47 = .ok (.invokevirtual 81, 3) := by decide +kernel
theorem dX10_isStrength_50 : decode cX10_isStrength 50 = .ok (.aload_n 0, 1) := by decide +kernel
theorem dX10_isStrength_51 : decode cX10_isStrength 51 = .ok (.aload_n 0, 1) := by decide +kernel
theorem dX10_isStrength_52 : decode cX10_isStrength 52 = .ok (.getfield 85, 3) := by decide +kernel
theorem dX10_isStrength_55 : decode cX10_isStrength 55 = .ok (.iconst 3, 1) := by decide +kernel
theorem dX10_isStrength_56 : decode cX10_isStrength 56 = .ok (.iadd, 1) := by decide +kernel
theorem dX10_isStrength_57 : decode cX10_isStrength 57 = .ok (.invokevirtual 81, 3) := by decide +kernel
theorem dX10_isStrength_60 : decode cX10_isStrength 60 = .ok (.invokestatic 118, 3) := by decide +kernel
theorem dX10_isStrength_63 : decode cX10_isStrength 63 = .ok (.bipush 115, 2) := by decide +kernel
theorem dX10_isStrength_65 : decode cX10_isStrength 65 = .ok (.bipush 116, 2) := by decide +kernel
theorem dX10_isStrength_67 : decode cX10_isStrength 67 = .ok (.bipush 114, 2) := by decide +kernel
theorem dX10_isStrength_69 : decode cX10_isStrength 69 = .ok (.bipush 101, 2) := by decide +kernel
theorem dX10_isStrength_71 : decode cX10_isStrength 71 = .ok (.invokestatic 118, 3) := by decide +kernel
theorem dX10_isStrength_74 : decode cX10_isStrength 74 = .ok (.lcmp, 1) := by decide +kernel
theorem dX10_isStrength_75 : decode cX10_isStrength 75 = .ok (.ifCond .ne 67, 3) := by decide +kernel
theorem dX10_isStrength_78 : decode cX10_isStrength 78 = .ok (.aload_n 0, 1) := by decide +kernel
theorem dX10_isStrength_79 : decode cX10_isStrength 79 = .ok (.aload_n 0, 1) := by decide +kernel
theorem dX10_isStrength_80 : decode cX10_isStrength 80 = .ok (.getfield 85, 3) := by decide +kernel
theorem dX10_isStrength_83 : decode cX10_isStrength 83 = .ok (.iconst 4, 1) := by decide +kernel
theorem dX10_isStrength_84 : decode cX10_isStrength 84 = .ok (.iadd, 1) := by decide +kernel
theorem dX10_isStrength_85 : decode cX10_isStrength 85 = .ok (.invokevirtual 81, 3) := by decide +kernel
theorem dX10_isStrength_88 : decode cX10_isStrength 88 = .ok (.aload_n 0, 1) := by decide +kernel
theorem dX10_isStrength_89 : decode cX10_isStrength 89 = .ok (.aload_n 0, 1) := by decide +kernel
theorem dX10_isStrength_90 : decode cX10_isStrength 90 = .ok (.getfield 85, 3) := by decide +kernel
theorem dX10_isStrength_93 : decode cX10_isStrength 93 = .ok (.iconst 5, 1) := by decide +kernel
theorem dX10_isStrength_94 : decode cX10_isStrength 94 = .ok (.iadd, 1) := by decide +kernel
theorem dX10_isStrength_95 : decode cX10_isStrength 95 = .ok (.invokevirtual 81, 3) := by decide +kernel
theorem dX10_isStrength_98 : decode cX10_isStrength 98 = .ok (.aload_n 0, 1) := by decide +kernel
theorem dX10_isStrength_99 : decode cX10_isStrength 99 = .ok (.aload_n 0, 1) := by decide +kernel
theorem dX10_isStrength_100 : decode cX10_isStrength 100 = .ok (.getfield 85, 3) := by decide +kernel
theorem dX10_isStrength_103 : decode cX10_isStrength 103 = .ok (.bipush 6, 2) := by decide +kernel
theorem dX10_isStrength_105 : decode cX10_isStrength 105 = .ok (.iadd, 1) := by decide +kernel
theorem dX10_isStrength_106 : decode cX10_isStrength 106 = .ok (.invokevirtual 81, 3) := by decide +kernel
theorem dX10_isStrength_109 : decode cX10_isStrength 109 = .ok (.aload_n 0, 1) := by decide +kernel
theorem dX10_isStrength_110 : decode cX10_isStrength 110 = .ok (.aload_n 0, 1) := by decide +kernel
theorem dX10_isStrength_111 : decode cX10_isStrength 111 = .ok (.getfield 85, 3) := by decide +kernel
theorem dX10_isStrength_114 : decode cX10_isStrength 114 = .ok (.bipush 7, 2) := by decide +kernel
theorem dX10_isStrength_116 : decode cX10_isStrength 116 = .ok (.iadd, 1) := by decide +kernel
theorem dX10_isStrength_117 : decode cX10_isStrength 117 = .ok (.invokevirtual 81, 3) := by decide +kernel
theorem dX10_isStrength_120 : decode cX10_isStrength 120 = .ok (.invokestatic 118, 3) := by decide +kernel
theorem dX10_isStrength_123 : decode cX10_isStrength 123 = .ok (.bipush 110, 2) := by decide +kernel
theorem dX10_isStrength_125 : decode cX10_isStrength 125 = .ok (.bipush 103, 2) := by decide +kernel
theorem dX10_isStrength_127 : decode cX10_isStrength 127 = .ok (.bipush 116, 2) := by decide +kernel
theorem dX10_isStrength_129 : decode cX10_isStrength 129 = .ok (.bipush 104, 2) := by decide +kernel
theorem dX10_isStrength_131 : decode cX10_isStrength 131 = .ok (.invokestatic 118, 3) := by decide +kernel
theorem dX10_isStrength_134 : decode cX10_isStrength 134 = .ok (.lcmp, 1) := by decide +kernel
theorem dX10_isStrength_135 : decode cX10_isStrength 135 = .ok (.ifCond .ne 7, 3) := by decide +kernel
theorem dX10_isStrength_138 : decode cX10_isStrength 138 = .ok (.iconst 1, 1) := by decide +kernel
theorem dX10_isStrength_139 : decode cX10_isStrength 139 = .ok (.goto 4, 3) := by decide +kernel
theorem dX10_isStrength_142 : decode cX10_isStrength 142 = .ok (.iconst 0, 1) := by decide +kernel
theorem dX10_isStrength_143 : decode cX10_isStrength 143 = .ok (.ireturn, 1) := by decide +kernel
theorem dX10_nameOf_0 : decode cX10_nameOf 0 = .ok (.aload_n 0, 1) := by decide +kernel
theorem dX10_nameOf_1 : decode cX10_nameOf 1 = .ok (.getfield 88, 3) := by decide +kernel
theorem dX10_nameOf_4 : decode cX10_nameOf 4 = .ok (.iconst 2, 1) := by decide +kernel
theorem dX10_nameOf_5 : decode cX10_nameOf 5 = .ok (.if_icmp .eq 5, 3) := by decide +kernel
theorem dX10_nameOf_8 : decode cX10_nameOf 8 = .ok (.iconst (-1), 1) := by decide +kernel
theorem dX10_nameOf_9 : decode cX10_nameOf 9 = .ok (.ireturn, 1) := by decide +kernel
theorem dX10_nameOf_10 : decode cX10_nameOf 10 = .ok (.aload_n 0, 1) := by decide +kernel
theorem dX10_nameOf_11 : decode cX10_nameOf 11 = .ok (.getfield 101, 3) := by decide +kernel
theorem dX10_nameOf_14 : decode cX10_nameOf 14 = .ok (.bipush 116, 2) := by decide +kernel
theorem dX10_nameOf_16 : decode cX10_nameOf 16 = .ok (.bipush 117, 2) := by decide +kernel
theorem dX10_nameOf_18 : decode cX10_nameOf 18 = .ok (.bipush 114, 2) := by decide +kernel
theorem dX10_nameOf_20 : decode cX10_nameOf 20 = .ok (.bipush 110, 2) := by decide +kernel
theorem dX10_nameOf_22 : decode cX10_nameOf 22 = .ok (.invokestatic 118, 3) := by decide +kernel
theorem dX10_nameOf_25 : decode cX10_nameOf 25 = .ok (.lcmp, 1) := by decide +kernel
theorem dX10_nameOf_26 : decode cX10_nameOf 26 = .ok (.ifCond .ne 5, 3) := by decide +kernel
theorem dX10_nameOf_29 : decode cX10_nameOf 29 = .ok (.iconst 0, 1) := by decide +kernel
theorem dX10_nameOf_30 : decode cX10_nameOf 30 = .ok (.ireturn, 1) := by decide +kernel
theorem dX10_nameOf_31 : decode cX10_nameOf 31 = .ok (.aload_n 0, 1) := by decide +kernel
theorem dX10_nameOf_32 : decode cX10_nameOf 32 = .ok (.getfield 101, 3) := by decide +kernel
theorem dX10_nameOf_35 : decode cX10_nameOf 35 = .ok (.bipush 99, 2) := by decide +kernel
theorem dX10_nameOf_37 : decode cX10_nameOf 37 = .ok (.bipush 101, 2) := by decide +kernel
theorem dX10_nameOf_39 : decode cX10_nameOf 39 = .ok (.bipush 108, 2) := by decide +kernel
theorem dX10_nameOf_41 : decode cX10_nameOf 41 = .ok (.bipush 108, 2) := by decide +kernel
theorem dX10_nameOf_43 : decode cX10_nameOf 43 = .ok (.invokestatic 118, 3) := by decide +kernel
theorem dX10_nameOf_46 : decode cX10_nameOf 46 = .ok (.lcmp, 1) := by decide +kernel
theorem dX10_nameOf_47 : decode cX10_nameOf 47 = .ok (.ifCond .ne 5, 3) := by decide +kernel
theorem dX10_nameOf_50 : decode cX10_nameOf 50 = .ok (.iconst 1, 1) := by decide +kernel
theorem dX10_nameOf_51 : decode cX10_nameOf 51 = .ok (.ireturn, 1) := by decide +kernel
theorem dX10_nameOf_52 : decode cX10_nameOf 52 = .ok (.aload_n 0, 1) := by decide +kernel
theorem dX10_nameOf_53 : decode cX10_nameOf 53 = .ok (.getfield 101, 3) := by decide +kernel
theorem dX10_nameOf_56 : decode cX10_nameOf 56 = .ok (.bipush 100, 2) := by decide +kernel
theorem dX10_nameOf_58 : decode cX10_nameOf 58 = .ok (.bipush 111, 2) := by decide +kernel
theorem dX10_nameOf_60 : decode cX10_nameOf 60 = .ok (.bipush 117, 2) := by decide +kernel
theorem dX10_nameOf_62 : decode cX10_nameOf 62 = .ok (.bipush 103, 2) := by decide +kernel
theorem dX10_nameOf_64 : decode cX10_nameOf 64 = .ok (.bipush 104, 2) := by decide +kernel
theorem dX10_nameOf_66 : decode cX10_nameOf 66 = .ok (.invokestatic 122, 3) := by decide +kernel
theorem dX10_nameOf_69 : decode cX10_nameOf 69 = .ok (.lcmp, 1) := by decide +kernel
theorem dX10_nameOf_70 : decode cX10_nameOf 70 = .ok (.ifCond .ne 5, 3) := by decide +kernel
theorem dX10_nameOf_73 : decode cX10_nameOf 73 = .ok (.iconst 2, 1) := by decide +kernel
theorem dX10_nameOf_74 : decode cX10_nameOf 74 = .ok (.ireturn, 1) := by decide +kernel
theorem dX10_nameOf_75 : decode cX10_nameOf 75 = .ok (.aload_n 0, 1) := by decide +kernel
theorem dX10_nameOf_76 : decode cX10_nameOf 76 = .ok (.getfield 101, 3) := by decide +kernel
theorem dX10_nameOf_79 : decode cX10_nameOf 79 = .ok (.bipush 116, 2) := by decide +kernel
theorem dX10_nameOf_81 : decode cX10_nameOf 81 = .ok (.bipush 111, 2) := by decide +kernel
theorem dX10_nameOf_83 : decode cX10_nameOf 83 = .ok (.bipush 114, 2) := by decide +kernel
theorem dX10_nameOf_85 : decode cX10_nameOf 85 = .ok (.bipush 110, 2) := by decide +kernel
theorem dX10_nameOf_87 : decode cX10_nameOf 87 = .ok (.invokestatic 118, 3) := by decide +kernel
theorem dX10_nameOf_90 : decode cX10_nameOf 90 = .ok (.lcmp, 1) := by decide +kernel
theorem dX10_nameOf_91 : decode cX10_nameOf 91 = .ok (.ifCond .ne 5, 3) := by decide +kernel
theorem dX10_nameOf_94 : decode cX10_nameOf 94 = .ok (.iconst 3, 1) := by decide +kernel
theorem dX10_nameOf_95 : decode cX10_nameOf 95 = .ok (.ireturn, 1) := by decide +kernel
theorem dX10_nameOf_96 : decode cX10_nameOf 96 = .ok (.aload_n 0, 1) := by decide +kernel
theorem dX10_nameOf_97 : decode cX10_nameOf 97 = .ok (.invokevirtual 132, 3) := by decide +kernel
theorem dX10_nameOf_100 : decode cX10_nameOf 100 = .ok (.ifCond .eq 5, 3) := by decide +kernel
theorem dX10_nameOf_103 : decode cX10_nameOf 103 = .ok (.iconst 4, 1) := by decide +kernel
theorem dX10_nameOf_104 : decode cX10_nameOf 104 = .ok (.ireturn, 1) := by decide +kernel
theorem dX10_nameOf_105 : decode cX10_nameOf 105 = .ok (.aload_n 0, 1) := by decide +kernel
theorem dX10_nameOf_106 : decode cX10_nameOf 106 = .ok (.getfield 101, 3) := by decide +kernel
theorem dX10_nameOf_109 : decode cX10_nameOf 109 = .ok (.bipush 119, 2) := by decide +kernel
theorem dX10_nameOf_111 : decode cX10_nameOf 111 = .ok (.bipush 104, 2) := by decide +kernel
theorem dX10_nameOf_113 : decode cX10_nameOf 113 = .ok (.bipush 111, 2) := by decide +kernel
theorem dX10_nameOf_115 : decode cX10_nameOf 115 = .ok (.invokestatic 114, 3) := by decide +kernel
theorem dX10_nameOf_118 : decode cX10_nameOf 118 = .ok (.lcmp, 1) := by decide +kernel
theorem dX10_nameOf_119 : decode cX10_nameOf 119 = .ok (.ifCond .ne 5, 3) := by decide +kernel
theorem dX10_nameOf_122 : decode cX10_nameOf 122 = .ok (.iconst 5, 1) := by decide +kernel
theorem dX10_nameOf_123 : decode cX10_nameOf 123 = .ok (.ireturn, 1) := by decide +kernel
theorem dX10_nameOf_124 : decode cX10_nameOf 124 = .ok (.aload_n 0, 1) := by decide +kernel
theorem dX10_nameOf_125 : decode cX10_nameOf 125 = .ok (.getfield 101, 3) := by decide +kernel
theorem dX10_nameOf_128 : decode cX10_nameOf 128 = .ok (.bipush 110, 2) := by decide +kernel
theorem dX10_nameOf_130 : decode cX10_nameOf 130 = .ok (.bipush 101, 2) := by decide +kernel
theorem dX10_nameOf_132 : decode cX10_nameOf 132 = .ok (.bipush 120, 2) := by decide +kernel
theorem dX10_nameOf_134 : decode cX10_nameOf 134 = .ok (.bipush 116, 2) := by decide +kernel
theorem dX10_nameOf_136 : decode cX10_nameOf 136 = .ok (.invokestatic 118, 3) := by decide +kernel
theorem dX10_nameOf_139 : decode cX10_nameOf 139 = .ok (.lcmp, 1) := by decide +kernel
theorem dX10_nameOf_140 : decode cX10_nameOf 140 = .ok (.ifCond .ne 8, 3) := by decide +kernel
theorem dX10_nameOf_143 : decode cX10_nameOf 143 = .ok (.bipush 6, 2) := by decide +kernel
theorem dX10_nameOf_145 : decode cX10_nameOf 145 = .ok (.goto 30, 3) := by decide +kernel
theorem dX10_nameOf_148 : decode cX10_nameOf 148 = .ok (.aload_n 0, 1) := by decide +kernel
theorem dX10_nameOf_149 : decode cX10_nameOf 149 = .ok (.getfield 101, 3) := by decide +kernel
theorem dX10_nameOf_152 : decode cX10_nameOf 152 = .ok (.bipush 114, 2) := by decide +kernel
theorem dX10_nameOf_154 : decode cX10_nameOf 154 = .ok (.bipush 105, 2) := by decide +kernel
theorem dX10_nameOf_156 : decode cX10_nameOf 156 = .ok (.bipush 103, 2) := by decide +kernel
theorem dX10_nameOf_158 : decode cX10_nameOf 158 = .ok (.bipush 104, 2) := by decide +kernel
theorem dX10_nameOf_160 : decode cX10_nameOf 160 = .ok (.bipush 116, 2) := by decide +kernel
theorem dX10_nameOf_162 : decode cX10_nameOf 162 = .ok (.invokestatic 122, 3) := by decide +kernel
theorem dX10_nameOf_165 : decode cX10_nameOf 165 = .ok (.lcmp, 1) := by decide +kernel
theorem dX10_nameOf_166 : decode cX10_nameOf 166 = .ok (.ifCond .ne 8, 3) := by decide +kernel
theorem dX10_nameOf_169 : decode cX10_nameOf 169 = .ok (.bipush 7, 2) := by decide +kernel
theorem dX10_nameOf_171 : decode cX10_nameOf 171 = .ok (.goto 4, 3) := by decide +kernel
theorem dX10_nameOf_174 : decode cX10_nameOf 174 = .ok (.iconst (-1), 1) := by decide +kernel
theorem dX10_nameOf_175 : decode cX10_nameOf 175 = .ok (.ireturn, 1) := by decide +kernel
theorem dX10_rank_0 : decode cX10_rank 0 = .ok (.iload_n 0, 1) := by decide +kernel
theorem dX10_rank_1 : decode cX10_rank 1 = .ok (.bipush 40, 2) := by decide +kernel
theorem dX10_rank_3 : decode cX10_rank 3 = .ok (.if_icmp .lt 7, 3) := by decide +kernel
theorem dX10_rank_6 : decode cX10_rank 6 = .ok (.iconst 0, 1) := by decide +kernel
theorem dX10_rank_7 : decode cX10_rank 7 = .ok (.goto 66, 3) := by decide +kernel
theorem dX10_rank_10 : decode cX10_rank 10 = .ok (.iload_n 0, 1) := by decide +kernel
theorem dX10_rank_11 : decode cX10_rank 11 = .ok (.bipush 22, 2) := by decide +kernel
theorem dX10_rank_13 : decode cX10_rank 13 = .ok (.if_icmp .ne 7, 3) := by decide +kernel
theorem dX10_rank_16 : decode cX10_rank 16 = .ok (.iconst 1, 1) := by decide +kernel
theorem dX10_rank_17 : decode cX10_rank 17 = .ok (.goto 56, 3) := by decide +kernel
theorem dX10_rank_20 : decode cX10_rank 20 = .ok (.iload_n 0, 1) := by decide +kernel
theorem dX10_rank_21 : decode cX10_rank 21 = .ok (.bipush 21, 2) := by decide +kernel
theorem dX10_rank_23 : decode cX10_rank 23 = .ok (.if_icmp .ne 7, 3) := by decide +kernel
theorem dX10_rank_26 : decode cX10_rank 26 = .ok (.iconst 2, 1) := by decide +kernel
theorem dX10_rank_27 : decode cX10_rank 27 = .ok (.goto 46, 3) := by decide +kernel
theorem dX10_rank_30 : decode cX10_rank 30 = .ok (.iload_n 0, 1) := by decide +kernel
theorem dX10_rank_31 : decode cX10_rank 31 = .ok (.bipush 20, 2) := by decide +kernel
theorem dX10_rank_33 : decode cX10_rank 33 = .ok (.if_icmp .ne 7, 3) := by decide +kernel
theorem dX10_rank_36 : decode cX10_rank 36 = .ok (.iconst 3, 1) := by decide +kernel
theorem dX10_rank_37 : decode cX10_rank 37 = .ok (.goto 36, 3) := by decide +kernel
theorem dX10_rank_40 : decode cX10_rank 40 = .ok (.iload_n 0, 1) := by decide +kernel
theorem dX10_rank_41 : decode cX10_rank 41 = .ok (.bipush 10, 2) := by decide +kernel
theorem dX10_rank_43 : decode cX10_rank 43 = .ok (.if_icmp .lt 7, 3) := by decide +kernel
theorem dX10_rank_46 : decode cX10_rank 46 = .ok (.iconst 4, 1) := by decide +kernel
theorem dX10_rank_47 : decode cX10_rank 47 = .ok (.goto 26, 3) := by decide +kernel
theorem dX10_rank_50 : decode cX10_rank 50 = .ok (.iload_n 0, 1) := by decide +kernel
theorem dX10_rank_51 : decode cX10_rank 51 = .ok (.bipush 8, 2) := by decide +kernel
theorem dX10_rank_53 : decode cX10_rank 53 = .ok (.if_icmp .lt 8, 3) := by decide +kernel
theorem dX10_rank_56 : decode cX10_rank 56 = .ok (.bipush 6, 2) := by decide +kernel
theorem dX10_rank_58 : decode cX10_rank 58 = .ok (.goto 15, 3) := by decide +kernel
theorem dX10_rank_61 : decode cX10_rank 61 = .ok (.iload_n 0, 1) := by decide +kernel
theorem dX10_rank_62 : decode cX10_rank 62 = .ok (.bipush 6, 2) := by decide +kernel
theorem dX10_rank_64 : decode cX10_rank 64 = .ok (.if_icmp .lt 7, 3) := by decide +kernel
theorem dX10_rank_67 : decode cX10_rank 67 = .ok (.iconst 5, 1) := by decide +kernel
theorem dX10_rank_68 : decode cX10_rank 68 = .ok (.goto 5, 3) := by decide +kernel
theorem dX10_rank_71 : decode cX10_rank 71 = .ok (.bipush 7, 2) := by decide +kernel
theorem dX10_rank_73 : decode cX10_rank 73 = .ok (.ireturn, 1) := by decide +kernel
theorem dX10_settle_0 : decode cX10_settle 0 = .ok (.aload_n 0, 1) := by decide +kernel
theorem dX10_settle_1 : decode cX10_settle 1 = .ok (.getfield 136, 3) := by decide +kernel
theorem dX10_settle_4 : decode cX10_settle 4 = .ok (.ifCond .le 89, 3) := by decide +kernel
theorem dX10_settle_7 : decode cX10_settle 7 = .ok (.aload_n 0, 1) := by decide +kernel
theorem dX10_settle_8 : decode cX10_settle 8 = .ok (.getfield 29, 3) := by decide +kernel
theorem dX10_settle_11 : decode cX10_settle 11 = .ok (.aload_n 0, 1) := by decide +kernel
theorem dX10_settle_12 : decode cX10_settle 12 = .ok (.getfield 136, 3) := by decide +kernel
theorem dX10_settle_15 : decode cX10_settle 15 = .ok (.iconst 1, 1) := by decide +kernel
theorem dX10_settle_16 : decode cX10_settle 16 = .ok (.isub, 1) := by decide +kernel
theorem dX10_settle_17 : decode cX10_settle 17 = .ok (.iaload, 1) := by decide +kernel
theorem dX10_settle_18 : decode cX10_settle 18 = .ok (.invokestatic 139, 3) := by decide +kernel
theorem dX10_settle_21 : decode cX10_settle 21 = .ok (.iload_n 1, 1) := by decide +kernel
theorem dX10_settle_22 : decode cX10_settle 22 = .ok (.if_icmp .lt 71, 3) := by decide +kernel
theorem dX10_settle_25 : decode cX10_settle 25 = .ok (.aload_n 0, 1) := by decide +kernel
theorem dX10_settle_26 : decode cX10_settle 26 = .ok (.dup, 1) := by decide +kernel
theorem dX10_settle_27 : decode cX10_settle 27 = .ok (.getfield 136, 3) := by decide +kernel
theorem dX10_settle_30 : decode cX10_settle 30 = .ok (.iconst 1, 1) := by decide +kernel
theorem dX10_settle_31 : decode cX10_settle 31 = .ok (.isub, 1) := by decide +kernel
theorem dX10_settle_32 : decode cX10_settle 32 = .ok (.putfield 136, 3) := by decide +kernel
theorem dX10_settle_35 : decode cX10_settle 35 = .ok (.aload_n 0, 1) := by decide +kernel
theorem dX10_settle_36 : decode cX10_settle 36 = .ok (.aload_n 0, 1) := by decide +kernel
theorem dX10_settle_37 : decode cX10_settle 37 = .ok (.getfield 29, 3) := by decide +kernel
theorem dX10_settle_40 : decode cX10_settle 40 = .ok (.aload_n 0, 1) := by decide +kernel
theorem dX10_settle_41 : decode cX10_settle 41 = .ok (.getfield 136, 3) := by decide +kernel
theorem dX10_settle_44 : decode cX10_settle 44 = .ok (.iaload, 1) := by decide +kernel
theorem dX10_settle_45 : decode cX10_settle 45 = .ok (.iconst 0, 1) := by decide +kernel
theorem dX10_settle_46 : decode cX10_settle 46 = .ok (.invokevirtual 142, 3) := by decide +kernel
theorem dX10_settle_49 : decode cX10_settle 49 = .ok (.aload_n 0, 1) := by decide +kernel
theorem dX10_settle_50 : decode cX10_settle 50 = .ok (.getfield 29, 3) := by decide +kernel
theorem dX10_settle_53 : decode cX10_settle 53 = .ok (.aload_n 0, 1) := by decide +kernel
theorem dX10_settle_54 : decode cX10_settle 54 = .ok (.getfield 136, 3) := by decide +kernel
theorem dX10_settle_57 : decode cX10_settle 57 = .ok (.iaload, 1) := by decide +kernel
theorem dX10_settle_58 : decode cX10_settle 58 = .ok (.invokestatic 139, 3) := by decide +kernel
theorem dX10_settle_61 : decode cX10_settle 61 = .ok (.bipush 7, 2) := by decide +kernel
theorem dX10_settle_63 : decode cX10_settle 63 = .ok (.if_icmp .eq 17, 3) := by decide +kernel
theorem dX10_settle_66 : decode cX10_settle 66 = .ok (.aload_n 0, 1) := by decide +kernel
theorem dX10_settle_67 : decode cX10_settle 67 = .ok (.getfield 29, 3) := by decide +kernel
theorem dX10_settle_70 : decode cX10_settle 70 = .ok (.aload_n 0, 1) := by decide +kernel
theorem dX10_settle_71 : decode cX10_settle 71 = .ok (.getfield 136, 3) := by decide +kernel
theorem dX10_settle_74 : decode cX10_settle 74 = .ok (.iaload, 1) := by decide +kernel
theorem dX10_settle_75 : decode cX10_settle 75 = .ok (.bipush 20, 2) := by decide +kernel
theorem dX10_settle_77 : decode cX10_settle 77 = .ok (.if_icmp .ne (-77), 3) := by decide +kernel
theorem dX10_settle_80 : decode cX10_settle 80 = .ok (.aload_n 0, 1) := by decide +kernel
theorem dX10_settle_81 : decode cX10_settle 81 = .ok (.dup, 1) := by decide +kernel
theorem dX10_settle_82 : decode cX10_settle 82 = .ok (.getfield 146, 3) := by decide +kernel
theorem dX10_settle_85 : decode cX10_settle 85 = .ok (.iconst 1, 1) := by decide +kernel
theorem dX10_settle_86 : decode cX10_settle 86 = .ok (.isub, 1) := by decide +kernel
theorem dX10_settle_87 : decode cX10_settle 87 = .ok (.putfield 146, 3) := by decide +kernel
theorem dX10_settle_90 : decode cX10_settle 90 = .ok (.goto (-90), 3) := by decide +kernel
theorem dX10_settle_93 : decode cX10_settle 93 = .ok (.return_, 1) := by decide +kernel
theorem dX10_openAt_0 : decode cX10_openAt 0 = .ok (.aload_n 0, 1) := by decide +kernel
theorem dX10_openAt_1 : decode cX10_openAt 1 = .ok (.getfield 136, 3) := by decide +kernel
theorem dX10_openAt_4 : decode cX10_openAt 4 = .ok (.iconst 1, 1) := by decide +kernel
theorem dX10_openAt_5 : decode cX10_openAt 5 = .ok (.isub, 1) := by decide +kernel
theorem dX10_openAt_6 : decode cX10_openAt 6 = .ok (.istore_n 1, 1) := by decide +kernel
theorem dX10_openAt_7 : decode cX10_openAt 7 = .ok (.iload_n 1, 1) := by decide +kernel
theorem dX10_openAt_8 : decode cX10_openAt 8 = .ok (.ifCond .lt 20, 3) := by decide +kernel
theorem dX10_openAt_11 : decode cX10_openAt 11 = .ok (.aload_n 0, 1) := by decide +kernel
theorem dX10_openAt_12 : decode cX10_openAt 12 = .ok (.getfield 29, 3) := by decide +kernel
theorem dX10_openAt_15 : decode cX10_openAt 15 = .ok (.iload_n 1, 1) := by decide +kernel
theorem dX10_openAt_16 : decode cX10_openAt 16 = .ok (.iaload, 1) := by decide +kernel
theorem dX10_openAt_17 : decode cX10_openAt 17 = .ok (.bipush 40, 2) := by decide +kernel
theorem dX10_openAt_19 : decode cX10_openAt 19 = .ok (.if_icmp .ge 9, 3) := by decide +kernel
theorem dX10_openAt_22 : decode cX10_openAt 22 = .ok (.iinc 1 (-1), 3) := by decide +kernel
theorem dX10_openAt_25 : decode cX10_openAt 25 = .ok (.goto (-18), 3) := by decide +kernel
theorem dX10_openAt_28 : decode cX10_openAt 28 = .ok (.iload_n 1, 1) := by decide +kernel
theorem dX10_openAt_29 : decode cX10_openAt 29 = .ok (.ireturn, 1) := by decide +kernel
theorem dX10_openNow_0 : decode cX10_openNow 0 = .ok (.aload_n 0, 1) := by decide +kernel
theorem dX10_openNow_1 : decode cX10_openNow 1 = .ok (.invokevirtual 149, 3) := by decide +kernel
theorem dX10_openNow_4 : decode cX10_openNow 4 = .ok (.ifCond .ge 7, 3) := by decide +kernel
theorem dX10_openNow_7 : decode cX10_openNow 7 = .ok (.iconst (-1), 1) := by decide +kernel
theorem dX10_openNow_8 : decode cX10_openNow 8 = .ok (.goto 12, 3) := by decide +kernel
theorem dX10_openNow_11 : decode cX10_openNow 11 = .ok (.aload_n 0, 1) := by decide +kernel
theorem dX10_openNow_12 : decode cX10_openNow 12 = .ok (.getfield 29, 3) := by decide +kernel
theorem dX10_openNow_15 : decode cX10_openNow 15 = .ok (.aload_n 0, 1) := by decide +kernel
theorem dX10_openNow_16 : decode cX10_openNow 16 = .ok (.invokevirtual 149, 3) := by decide +kernel
theorem dX10_openNow_19 : decode cX10_openNow 19 = .ok (.iaload, 1) := by decide +kernel
theorem dX10_openNow_20 : decode cX10_openNow 20 = .ok (.ireturn, 1) := by decide +kernel
theorem dX10_isCompared_0 : decode cX10_isCompared 0 = .ok (.aload_n 0, 1) := by decide +kernel
theorem dX10_isCompared_1 : decode cX10_isCompared 1 = .ok (.getfield 136, 3) := by decide +kernel
theorem dX10_isCompared_4 : decode cX10_isCompared 4 = .ok (.iconst 1, 1) := by decide +kernel
theorem dX10_isCompared_5 : decode cX10_isCompared 5 = .ok (.isub, 1) := by decide +kernel
theorem dX10_isCompared_6 : decode cX10_isCompared 6 = .ok (.istore_n 1, 1) := by decide +kernel
theorem dX10_isCompared_7 : decode cX10_isCompared 7 = .ok (.iload_n 1, 1) := by decide +kernel
theorem dX10_isCompared_8 : decode cX10_isCompared 8 = .ok (.ifCond .lt 22, 3) := by decide +kernel
theorem dX10_isCompared_11 : decode cX10_isCompared 11 = .ok (.aload_n 0, 1) := by decide +kernel
theorem dX10_isCompared_12 : decode cX10_isCompared 12 = .ok (.getfield 29, 3) := by decide +kernel
theorem dX10_isCompared_15 : decode cX10_isCompared 15 = .ok (.iload_n 1, 1) := by decide +kernel
theorem dX10_isCompared_16 : decode cX10_isCompared 16 = .ok (.iaload, 1) := by decide +kernel
theorem dX10_isCompared_17 : decode cX10_isCompared 17 = .ok (.invokestatic 139, 3) := by decide +kernel
theorem dX10_isCompared_20 : decode cX10_isCompared 20 = .ok (.iconst 4, 1) := by decide +kernel
theorem dX10_isCompared_21 : decode cX10_isCompared 21 = .ok (.if_icmp .le 9, 3) := by decide +kernel
theorem dX10_isCompared_24 : decode cX10_isCompared 24 = .ok (.iinc 1 (-1), 3) := by decide +kernel
theorem dX10_isCompared_27 : decode cX10_isCompared 27 = .ok (.goto (-20), 3) := by decide +kernel
theorem dX10_isCompared_30 : decode cX10_isCompared 30 = .ok (.iload_n 1, 1) := by decide +kernel
theorem dX10_isCompared_31 : decode cX10_isCompared 31 = .ok (.ifCond .lt 20, 3) := by decide +kernel
theorem dX10_isCompared_34 : decode cX10_isCompared 34 = .ok (.aload_n 0, 1) := by decide +kernel
theorem dX10_isCompared_35 : decode cX10_isCompared 35 = .ok (.getfield 29, 3) := by decide +kernel
theorem dX10_isCompared_38 : decode cX10_isCompared 38 = .ok (.iload_n 1, 1) := by decide +kernel
theorem dX10_isCompared_39 : decode cX10_isCompared 39 = .ok (.iaload, 1) := by decide +kernel
theorem dX10_isCompared_40 : decode cX10_isCompared 40 = .ok (.invokestatic 139, 3) := by decide +kernel
theorem dX10_isCompared_43 : decode cX10_isCompared 43 = .ok (.iconst 4, 1) := by decide +kernel
theorem dX10_isCompared_44 : decode cX10_isCompared 44 = .ok (.if_icmp .ne 7, 3) := by decide +kernel
theorem dX10_isCompared_47 : decode cX10_isCompared 47 = .ok (.iconst 1, 1) := by decide +kernel
theorem dX10_isCompared_48 : decode cX10_isCompared 48 = .ok (.goto 4, 3) := by decide +kernel
theorem dX10_isCompared_51 : decode cX10_isCompared 51 = .ok (.iconst 0, 1) := by decide +kernel
theorem dX10_isCompared_52 : decode cX10_isCompared 52 = .ok (.ireturn, 1) := by decide +kernel
theorem dX10_isAskAhead_0 : decode cX10_isAskAhead 0 = .ok (.aload_n 0, 1) := by decide +kernel
theorem dX10_isAskAhead_1 : decode cX10_isAskAhead 1 = .ok (.invokevirtual 153, 3) := by decide +kernel
theorem dX10_isAskAhead_4 : decode cX10_isAskAhead 4 = .ok (.bipush 41, 2) := by decide +kernel
theorem dX10_isAskAhead_6 : decode cX10_isAskAhead 6 = .ok (.if_icmp .ne 45, 3) := by decide +kernel
theorem dX10_isAskAhead_9 : decode cX10_isAskAhead 9 = .ok (.aload_n 0, 1) := by decide +kernel
theorem dX10_isAskAhead_10 : decode cX10_isAskAhead 10 = .ok (.getfield 29, 3) := by decide +kernel
theorem dX10_isAskAhead_13 : decode cX10_isAskAhead 13 = .ok (.aload_n 0, 1) := by decide +kernel
theorem dX10_isAskAhead_14 : decode cX10_isAskAhead 14 = .ok (.getfield 136, 3) := by decide +kernel
theorem dX10_isAskAhead_17 : decode cX10_isAskAhead 17 = .ok (.iconst 1, 1) := by decide +kernel
theorem dX10_isAskAhead_18 : decode cX10_isAskAhead 18 = .ok (.isub, 1) := by decide +kernel
theorem dX10_isAskAhead_19 : decode cX10_isAskAhead 19 = .ok (.iaload, 1) := by decide +kernel
theorem dX10_isAskAhead_20 : decode cX10_isAskAhead 20 = .ok (.bipush 40, 2) := by decide +kernel
theorem dX10_isAskAhead_22 : decode cX10_isAskAhead 22 = .ok (.if_icmp .ge 25, 3) := by decide +kernel
theorem dX10_isAskAhead_25 : decode cX10_isAskAhead 25 = .ok (.aload_n 0, 1) := by decide +kernel
theorem dX10_isAskAhead_26 : decode cX10_isAskAhead 26 = .ok (.getfield 29, 3) := by decide +kernel
theorem dX10_isAskAhead_29 : decode cX10_isAskAhead 29 = .ok (.aload_n 0, 1) := by decide +kernel
theorem dX10_isAskAhead_30 : decode cX10_isAskAhead 30 = .ok (.getfield 136, 3) := by decide +kernel
theorem dX10_isAskAhead_33 : decode cX10_isAskAhead 33 = .ok (.iconst 1, 1) := by decide +kernel
theorem dX10_isAskAhead_34 : decode cX10_isAskAhead 34 = .ok (.isub, 1) := by decide +kernel
theorem dX10_isAskAhead_35 : decode cX10_isAskAhead 35 = .ok (.iaload, 1) := by decide +kernel
theorem dX10_isAskAhead_36 : decode cX10_isAskAhead 36 = .ok (.invokestatic 139, 3) := by decide +kernel
theorem dX10_isAskAhead_39 : decode cX10_isAskAhead 39 = .ok (.iconst 1, 1) := by decide +kernel
theorem dX10_isAskAhead_40 : decode cX10_isAskAhead 40 = .ok (.iconst 3, 1) := by decide +kernel
theorem dX10_isAskAhead_41 : decode cX10_isAskAhead 41 = .ok (.invokestatic 63, 3) := by decide +kernel
theorem dX10_isAskAhead_44 : decode cX10_isAskAhead 44 = .ok (.ifCond .eq 7, 3) := by decide +kernel
theorem dX10_isAskAhead_47 : decode cX10_isAskAhead 47 = .ok (.iconst 1, 1) := by decide +kernel
theorem dX10_isAskAhead_48 : decode cX10_isAskAhead 48 = .ok (.goto 4, 3) := by decide +kernel
theorem dX10_isAskAhead_51 : decode cX10_isAskAhead 51 = .ok (.iconst 0, 1) := by decide +kernel
theorem dX10_isAskAhead_52 : decode cX10_isAskAhead 52 = .ok (.ireturn, 1) := by decide +kernel
theorem dX10_opened_0 : decode cX10_opened 0 = .ok (.aload_n 0, 1) := by decide +kernel
theorem dX10_opened_1 : decode cX10_opened 1 = .ok (.getfield 146, 3) := by decide +kernel
theorem dX10_opened_4 : decode cX10_opened 4 = .ok (.bipush 8, 2) := by decide +kernel
theorem dX10_opened_6 : decode cX10_opened 6 = .ok (.if_icmp .ne 5, 3) := by decide +kernel
theorem dX10_opened_9 : decode cX10_opened 9 = .ok (.iconst 3, 1) := by decide +kernel
theorem dX10_opened_10 : decode cX10_opened 10 = .ok (.ireturn, 1) := by decide +kernel
theorem dX10_opened_11 : decode cX10_opened 11 = .ok (.aload_n 0, 1) := by decide +kernel
theorem dX10_opened_12 : decode cX10_opened 12 = .ok (.dup, 1) := by decide +kernel
theorem dX10_opened_13 : decode cX10_opened 13 = .ok (.getfield 146, 3) := by decide +kernel
theorem dX10_opened_16 : decode cX10_opened 16 = .ok (.iconst 1, 1) := by decide +kernel
theorem dX10_opened_17 : decode cX10_opened 17 = .ok (.iadd, 1) := by decide +kernel
theorem dX10_opened_18 : decode cX10_opened 18 = .ok (.putfield 146, 3) := by decide +kernel
theorem dX10_opened_21 : decode cX10_opened 21 = .ok (.aload_n 0, 1) := by decide +kernel
theorem dX10_opened_22 : decode cX10_opened 22 = .ok (.getfield 29, 3) := by decide +kernel
theorem dX10_opened_25 : decode cX10_opened 25 = .ok (.aload_n 0, 1) := by decide +kernel
theorem dX10_opened_26 : decode cX10_opened 26 = .ok (.getfield 136, 3) := by decide +kernel
theorem dX10_opened_29 : decode cX10_opened 29 = .ok (.iload_n 1, 1) := by decide +kernel
theorem dX10_opened_30 : decode cX10_opened 30 = .ok (.iastore, 1) := by decide +kernel
theorem dX10_opened_31 : decode cX10_opened 31 = .ok (.aload_n 0, 1) := by decide +kernel
theorem dX10_opened_32 : decode cX10_opened 32 = .ok (.dup, 1) := by decide +kernel
theorem dX10_opened_33 : decode cX10_opened 33 = .ok (.getfield 136, 3) := by decide +kernel
theorem dX10_opened_36 : decode cX10_opened 36 = .ok (.iconst 1, 1) := by decide +kernel
theorem dX10_opened_37 : decode cX10_opened 37 = .ok (.iadd, 1) := by decide +kernel
theorem dX10_opened_38 : decode cX10_opened 38 = .ok (.putfield 136, 3) := by decide +kernel
theorem dX10_opened_41 : decode cX10_opened 41 = .ok (.aload_n 0, 1) := by decide +kernel
theorem dX10_opened_42 : decode cX10_opened 42 = .ok (.invokevirtual 156, 3) := by decide +kernel
theorem dX10_opened_45 : decode cX10_opened 45 = .ok (.iconst 0, 1) := by decide +kernel
theorem dX10_opened_46 : decode cX10_opened 46 = .ok (.ireturn, 1) := by decide +kernel
theorem dX10_beginOne_0 : decode cX10_beginOne 0 = .ok (.aload_n 0, 1) := by decide +kernel
theorem dX10_beginOne_1 : decode cX10_beginOne 1 = .ok (.getfield 88, 3) := by decide +kernel
theorem dX10_beginOne_4 : decode cX10_beginOne 4 = .ok (.iconst 1, 1) := by decide +kernel
theorem dX10_beginOne_5 : decode cX10_beginOne 5 = .ok (.if_icmp .ne 15, 3) := by decide +kernel
theorem dX10_beginOne_8 : decode cX10_beginOne 8 = .ok (.aload_n 0, 1) := by decide +kernel
theorem dX10_beginOne_9 : decode cX10_beginOne 9 = .ok (.getfield 94, 3) := by decide +kernel
theorem dX10_beginOne_12 : decode cX10_beginOne 12 = .ok (.sipush 9999, 3) := by decide +kernel
theorem dX10_beginOne_15 : decode cX10_beginOne 15 = .ok (.if_icmp .le 5, 3) := by decide +kernel
theorem dX10_beginOne_18 : decode cX10_beginOne 18 = .ok (.iconst 2, 1) := by decide +kernel
theorem dX10_beginOne_19 : decode cX10_beginOne 19 = .ok (.ireturn, 1) := by decide +kernel
theorem dX10_beginOne_20 : decode cX10_beginOne 20 = .ok (.aload_n 0, 1) := by decide +kernel
theorem dX10_beginOne_21 : decode cX10_beginOne 21 = .ok (.invokevirtual 159, 3) := by decide +kernel
theorem dX10_beginOne_24 : decode cX10_beginOne 24 = .ok (.istore_n 1, 1) := by decide +kernel
theorem dX10_beginOne_25 : decode cX10_beginOne 25 = .ok (.iload_n 1, 1) := by decide +kernel
theorem dX10_beginOne_26 : decode cX10_beginOne 26 = .ok (.iconst 3, 1) := by decide +kernel
theorem dX10_beginOne_27 : decode cX10_beginOne 27 = .ok (.if_icmp .le 12, 3) := by decide +kernel
theorem dX10_beginOne_30 : decode cX10_beginOne 30 = .ok (.aload_n 0, 1) := by decide +kernel
theorem dX10_beginOne_31 : decode cX10_beginOne 31 = .ok (.getfield 162, 3) := by decide +kernel
theorem dX10_beginOne_34 : decode cX10_beginOne 34 = .ok (.ifCond .eq 5, 3) := by decide +kernel
theorem dX10_beginOne_37 : decode cX10_beginOne 37 = .ok (.iconst 5, 1) := by decide +kernel
theorem dX10_beginOne_38 : decode cX10_beginOne 38 = .ok (.ireturn, 1) := by decide +kernel
theorem dX10_beginOne_39 : decode cX10_beginOne 39 = .ok (.aload_n 0, 1) := by decide +kernel
theorem dX10_beginOne_40 : decode cX10_beginOne 40 = .ok (.getfield 88, 3) := by decide +kernel
theorem dX10_beginOne_43 : decode cX10_beginOne 43 = .ok (.iconst 1, 1) := by decide +kernel
theorem dX10_beginOne_44 : decode cX10_beginOne 44 = .ok (.if_icmp .eq 7, 3) := by decide +kernel
theorem dX10_beginOne_47 : decode cX10_beginOne 47 = .ok (.iload_n 1, 1) := by decide +kernel
theorem dX10_beginOne_48 : decode cX10_beginOne 48 = .ok (.ifCond .lt 53, 3) := by decide +kernel
theorem dX10_beginOne_51 : decode cX10_beginOne 51 = .ok (.aload_n 0, 1) := by decide +kernel
theorem dX10_beginOne_52 : decode cX10_beginOne 52 = .ok (.aload_n 0, 1) := by decide +kernel
theorem dX10_beginOne_53 : decode cX10_beginOne 53 = .ok (.getfield 88, 3) := by decide +kernel
theorem dX10_beginOne_56 : decode cX10_beginOne 56 = .ok (.iconst 1, 1) := by decide +kernel
theorem dX10_beginOne_57 : decode cX10_beginOne 57 = .ok (.if_icmp .ne 7, 3) := by decide +kernel
theorem dX10_beginOne_60 : decode cX10_beginOne 60 = .ok (.iconst 0, 1) := by decide +kernel
theorem dX10_beginOne_61 : decode cX10_beginOne 61 = .ok (.goto 4, 3) := by decide +kernel
theorem dX10_beginOne_64 : decode cX10_beginOne 64 = .ok (.iconst 1, 1) := by decide +kernel
theorem dX10_beginOne_65 : decode cX10_beginOne 65 = .ok (.aload_n 0, 1) := by decide +kernel
theorem dX10_beginOne_66 : decode cX10_beginOne 66 = .ok (.getfield 88, 3) := by decide +kernel
theorem dX10_beginOne_69 : decode cX10_beginOne 69 = .ok (.iconst 1, 1) := by decide +kernel
theorem dX10_beginOne_70 : decode cX10_beginOne 70 = .ok (.if_icmp .ne 10, 3) := by decide +kernel
theorem dX10_beginOne_73 : decode cX10_beginOne 73 = .ok (.aload_n 0, 1) := by decide +kernel
theorem dX10_beginOne_74 : decode cX10_beginOne 74 = .ok (.getfield 94, 3) := by decide +kernel
theorem dX10_beginOne_77 : decode cX10_beginOne 77 = .ok (.goto 4, 3) := by decide +kernel
theorem dX10_beginOne_80 : decode cX10_beginOne 80 = .ok (.iload_n 1, 1) := by decide +kernel
theorem dX10_beginOne_81 : decode cX10_beginOne 81 = .ok (.invokevirtual 142, 3) := by decide +kernel
theorem dX10_beginOne_84 : decode cX10_beginOne 84 = .ok (.aload_n 0, 1) := by decide +kernel
theorem dX10_beginOne_85 : decode cX10_beginOne 85 = .ok (.invokevirtual 156, 3) := by decide +kernel
theorem dX10_beginOne_88 : decode cX10_beginOne 88 = .ok (.aload_n 0, 1) := by decide +kernel
theorem dX10_beginOne_89 : decode cX10_beginOne 89 = .ok (.iconst 1, 1) := by decide +kernel
theorem dX10_beginOne_90 : decode cX10_beginOne 90 = .ok (.putfield 165, 3) := by decide +kernel
theorem dX10_beginOne_93 : decode cX10_beginOne 93 = .ok (.aload_n 0, 1) := by decide +kernel
theorem dX10_beginOne_94 : decode cX10_beginOne 94 = .ok (.bipush 7, 2) := by decide +kernel
theorem dX10_beginOne_96 : decode cX10_beginOne 96 = .ok (.invokevirtual 168, 3) := by decide +kernel
theorem dX10_beginOne_99 : decode cX10_beginOne 99 = .ok (.iconst 0, 1) := by decide +kernel
theorem dX10_beginOne_100 : decode cX10_beginOne 100 = .ok (.ireturn, 1) := by decide +kernel
theorem dX10_beginOne_101 : decode cX10_beginOne 101 = .ok (.aload_n 0, 1) := by decide +kernel
theorem dX10_beginOne_102 : decode cX10_beginOne 102 = .ok (.getfield 88, 3) := by decide +kernel
theorem dX10_beginOne_105 : decode cX10_beginOne 105 = .ok (.bipush 40, 2) := by decide +kernel
theorem dX10_beginOne_107 : decode cX10_beginOne 107 = .ok (.if_icmp .ne 10, 3) := by decide +kernel
theorem dX10_beginOne_110 : decode cX10_beginOne 110 = .ok (.aload_n 0, 1) := by decide +kernel
theorem dX10_beginOne_111 : decode cX10_beginOne 111 = .ok (.bipush 40, 2) := by decide +kernel
theorem dX10_beginOne_113 : decode cX10_beginOne 113 = .ok (.invokevirtual 171, 3) := by decide +kernel
theorem dX10_beginOne_116 : decode cX10_beginOne 116 = .ok (.ireturn, 1) := by decide +kernel
theorem dX10_beginOne_117 : decode cX10_beginOne 117 = .ok (.aload_n 0, 1) := by decide +kernel
theorem dX10_beginOne_118 : decode cX10_beginOne 118 = .ok (.getfield 88, 3) := by decide +kernel
theorem dX10_beginOne_121 : decode cX10_beginOne 121 = .ok (.bipush 45, 2) := by decide +kernel
theorem dX10_beginOne_123 : decode cX10_beginOne 123 = .ok (.if_icmp .ne 9, 3) := by decide +kernel
theorem dX10_beginOne_126 : decode cX10_beginOne 126 = .ok (.aload_n 0, 1) := by decide +kernel
theorem dX10_beginOne_127 : decode cX10_beginOne 127 = .ok (.iconst 5, 1) := by decide +kernel
theorem dX10_beginOne_128 : decode cX10_beginOne 128 = .ok (.invokevirtual 171, 3) := by decide +kernel
theorem dX10_beginOne_131 : decode cX10_beginOne 131 = .ok (.ireturn, 1) := by decide +kernel
theorem dX10_beginOne_132 : decode cX10_beginOne 132 = .ok (.aload_n 0, 1) := by decide +kernel
theorem dX10_beginOne_133 : decode cX10_beginOne 133 = .ok (.bipush 115, 2) := by decide +kernel
theorem dX10_beginOne_135 : decode cX10_beginOne 135 = .ok (.bipush 113, 2) := by decide +kernel
theorem dX10_beginOne_137 : decode cX10_beginOne 137 = .ok (.bipush 117, 2) := by decide +kernel
theorem dX10_beginOne_139 : decode cX10_beginOne 139 = .ok (.bipush 97, 2) := by decide +kernel
theorem dX10_beginOne_141 : decode cX10_beginOne 141 = .ok (.bipush 114, 2) := by decide +kernel
theorem dX10_beginOne_143 : decode cX10_beginOne 143 = .ok (.bipush 101, 2) := by decide +kernel
theorem dX10_beginOne_145 : decode cX10_beginOne 145 = .ok (.invokestatic 174, 3) := by decide +kernel
theorem dX10_beginOne_148 : decode cX10_beginOne 148 = .ok (.invokevirtual 178, 3) := by decide +kernel
theorem dX10_beginOne_151 : decode cX10_beginOne 151 = .ok (.ifCond .eq 9, 3) := by decide +kernel
theorem dX10_beginOne_154 : decode cX10_beginOne 154 = .ok (.aload_n 0, 1) := by decide +kernel
theorem dX10_beginOne_155 : decode cX10_beginOne 155 = .ok (.iconst 4, 1) := by decide +kernel
theorem dX10_beginOne_156 : decode cX10_beginOne 156 = .ok (.invokevirtual 171, 3) := by decide +kernel
theorem dX10_beginOne_159 : decode cX10_beginOne 159 = .ok (.ireturn, 1) := by decide +kernel
theorem dX10_beginOne_160 : decode cX10_beginOne 160 = .ok (.aload_n 0, 1) := by decide +kernel
theorem dX10_beginOne_161 : decode cX10_beginOne 161 = .ok (.bipush 115, 2) := by decide +kernel
theorem dX10_beginOne_163 : decode cX10_beginOne 163 = .ok (.bipush 104, 2) := by decide +kernel
theorem dX10_beginOne_165 : decode cX10_beginOne 165 = .ok (.bipush 101, 2) := by decide +kernel
theorem dX10_beginOne_167 : decode cX10_beginOne 167 = .ok (.bipush 101, 2) := by decide +kernel
theorem dX10_beginOne_169 : decode cX10_beginOne 169 = .ok (.bipush 116, 2) := by decide +kernel
theorem dX10_beginOne_171 : decode cX10_beginOne 171 = .ok (.invokestatic 122, 3) := by decide +kernel
theorem dX10_beginOne_174 : decode cX10_beginOne 174 = .ok (.invokevirtual 178, 3) := by decide +kernel
theorem dX10_beginOne_177 : decode cX10_beginOne 177 = .ok (.ifCond .eq 9, 3) := by decide +kernel
theorem dX10_beginOne_180 : decode cX10_beginOne 180 = .ok (.aload_n 0, 1) := by decide +kernel
theorem dX10_beginOne_181 : decode cX10_beginOne 181 = .ok (.iconst 2, 1) := by decide +kernel
theorem dX10_beginOne_182 : decode cX10_beginOne 182 = .ok (.invokevirtual 171, 3) := by decide +kernel
theorem dX10_beginOne_185 : decode cX10_beginOne 185 = .ok (.ireturn, 1) := by decide +kernel
theorem dX10_beginOne_186 : decode cX10_beginOne 186 = .ok (.aload_n 0, 1) := by decide +kernel
theorem dX10_beginOne_187 : decode cX10_beginOne 187 = .ok (.bipush 105, 2) := by decide +kernel
theorem dX10_beginOne_189 : decode cX10_beginOne 189 = .ok (.bipush 102, 2) := by decide +kernel
theorem dX10_beginOne_191 : decode cX10_beginOne 191 = .ok (.invokestatic 110, 3) := by decide +kernel
theorem dX10_beginOne_194 : decode cX10_beginOne 194 = .ok (.invokevirtual 178, 3) := by decide +kernel
theorem dX10_beginOne_197 : decode cX10_beginOne 197 = .ok (.ifCond .eq 10, 3) := by decide +kernel
theorem dX10_beginOne_200 : decode cX10_beginOne 200 = .ok (.aload_n 0, 1) := by decide +kernel
theorem dX10_beginOne_201 : decode cX10_beginOne 201 = .ok (.bipush 41, 2) := by decide +kernel
theorem dX10_beginOne_203 : decode cX10_beginOne 203 = .ok (.invokevirtual 171, 3) := by decide +kernel
theorem dX10_beginOne_206 : decode cX10_beginOne 206 = .ok (.ireturn, 1) := by decide +kernel
theorem dX10_beginOne_207 : decode cX10_beginOne 207 = .ok (.aload_n 0, 1) := by decide +kernel
theorem dX10_beginOne_208 : decode cX10_beginOne 208 = .ok (.bipush 110, 2) := by decide +kernel
theorem dX10_beginOne_210 : decode cX10_beginOne 210 = .ok (.bipush 111, 2) := by decide +kernel
theorem dX10_beginOne_212 : decode cX10_beginOne 212 = .ok (.bipush 116, 2) := by decide +kernel
theorem dX10_beginOne_214 : decode cX10_beginOne 214 = .ok (.invokestatic 114, 3) := by decide +kernel
theorem dX10_beginOne_217 : decode cX10_beginOne 217 = .ok (.invokevirtual 178, 3) := by decide +kernel
theorem dX10_beginOne_220 : decode cX10_beginOne 220 = .ok (.ifCond .eq 19, 3) := by decide +kernel
theorem dX10_beginOne_223 : decode cX10_beginOne 223 = .ok (.aload_n 0, 1) := by decide +kernel
theorem dX10_beginOne_224 : decode cX10_beginOne 224 = .ok (.invokevirtual 182, 3) := by decide +kernel
theorem dX10_beginOne_227 : decode cX10_beginOne 227 = .ok (.ifCond .eq 12, 3) := by decide +kernel
theorem dX10_beginOne_230 : decode cX10_beginOne 230 = .ok (.aload_n 0, 1) := by decide +kernel
theorem dX10_beginOne_231 : decode cX10_beginOne 231 = .ok (.bipush 20, 2) := by decide +kernel
theorem dX10_beginOne_233 : decode cX10_beginOne 233 = .ok (.invokevirtual 171, 3) := by decide +kernel
theorem dX10_beginOne_236 : decode cX10_beginOne 236 = .ok (.goto 4, 3) := by decide +kernel
theorem dX10_beginOne_239 : decode cX10_beginOne 239 = .ok (.iconst 1, 1) := by decide +kernel
theorem dX10_beginOne_240 : decode cX10_beginOne 240 = .ok (.ireturn, 1) := by decide +kernel
theorem dX10_compareOf_0 : decode cX10_compareOf 0 = .ok (.aload_n 0, 1) := by decide +kernel
theorem dX10_compareOf_1 : decode cX10_compareOf 1 = .ok (.getfield 88, 3) := by decide +kernel
theorem dX10_compareOf_4 : decode cX10_compareOf 4 = .ok (.bipush 60, 2) := by decide +kernel
theorem dX10_compareOf_6 : decode cX10_compareOf 6 = .ok (.if_icmp .ne 8, 3) := by decide +kernel
theorem dX10_compareOf_9 : decode cX10_compareOf 9 = .ok (.bipush 10, 2) := by decide +kernel
theorem dX10_compareOf_11 : decode cX10_compareOf 11 = .ok (.goto 72, 3) := by decide +kernel
theorem dX10_compareOf_14 : decode cX10_compareOf 14 = .ok (.aload_n 0, 1) := by decide +kernel
theorem dX10_compareOf_15 : decode cX10_compareOf 15 = .ok (.getfield 88, 3) := by decide +kernel
theorem dX10_compareOf_18 : decode cX10_compareOf 18 = .ok (.iconst 4, 1) := by decide +kernel
theorem dX10_compareOf_19 : decode cX10_compareOf 19 = .ok (.if_icmp .ne 8, 3) := by decide +kernel
theorem dX10_compareOf_22 : decode cX10_compareOf 22 = .ok (.bipush 11, 2) := by decide +kernel
theorem dX10_compareOf_24 : decode cX10_compareOf 24 = .ok (.goto 59, 3) := by decide +kernel
theorem dX10_compareOf_27 : decode cX10_compareOf 27 = .ok (.aload_n 0, 1) := by decide +kernel
theorem dX10_compareOf_28 : decode cX10_compareOf 28 = .ok (.getfield 88, 3) := by decide +kernel
theorem dX10_compareOf_31 : decode cX10_compareOf 31 = .ok (.bipush 62, 2) := by decide +kernel
theorem dX10_compareOf_33 : decode cX10_compareOf 33 = .ok (.if_icmp .ne 8, 3) := by decide +kernel
theorem dX10_compareOf_36 : decode cX10_compareOf 36 = .ok (.bipush 12, 2) := by decide +kernel
theorem dX10_compareOf_38 : decode cX10_compareOf 38 = .ok (.goto 45, 3) := by decide +kernel
theorem dX10_compareOf_41 : decode cX10_compareOf 41 = .ok (.aload_n 0, 1) := by decide +kernel
theorem dX10_compareOf_42 : decode cX10_compareOf 42 = .ok (.getfield 88, 3) := by decide +kernel
theorem dX10_compareOf_45 : decode cX10_compareOf 45 = .ok (.iconst 5, 1) := by decide +kernel
theorem dX10_compareOf_46 : decode cX10_compareOf 46 = .ok (.if_icmp .ne 8, 3) := by decide +kernel
theorem dX10_compareOf_49 : decode cX10_compareOf 49 = .ok (.bipush 13, 2) := by decide +kernel
theorem dX10_compareOf_51 : decode cX10_compareOf 51 = .ok (.goto 32, 3) := by decide +kernel
theorem dX10_compareOf_54 : decode cX10_compareOf 54 = .ok (.aload_n 0, 1) := by decide +kernel
theorem dX10_compareOf_55 : decode cX10_compareOf 55 = .ok (.getfield 88, 3) := by decide +kernel
theorem dX10_compareOf_58 : decode cX10_compareOf 58 = .ok (.bipush 61, 2) := by decide +kernel
theorem dX10_compareOf_60 : decode cX10_compareOf 60 = .ok (.if_icmp .ne 8, 3) := by decide +kernel
theorem dX10_compareOf_63 : decode cX10_compareOf 63 = .ok (.bipush 14, 2) := by decide +kernel
theorem dX10_compareOf_65 : decode cX10_compareOf 65 = .ok (.goto 18, 3) := by decide +kernel
theorem dX10_compareOf_68 : decode cX10_compareOf 68 = .ok (.aload_n 0, 1) := by decide +kernel
theorem dX10_compareOf_69 : decode cX10_compareOf 69 = .ok (.getfield 88, 3) := by decide +kernel
theorem dX10_compareOf_72 : decode cX10_compareOf 72 = .ok (.bipush 35, 2) := by decide +kernel
theorem dX10_compareOf_74 : decode cX10_compareOf 74 = .ok (.if_icmp .ne 8, 3) := by decide +kernel
theorem dX10_compareOf_77 : decode cX10_compareOf 77 = .ok (.bipush 15, 2) := by decide +kernel
theorem dX10_compareOf_79 : decode cX10_compareOf 79 = .ok (.goto 4, 3) := by decide +kernel
theorem dX10_compareOf_82 : decode cX10_compareOf 82 = .ok (.iconst (-1), 1) := by decide +kernel
theorem dX10_compareOf_83 : decode cX10_compareOf 83 = .ok (.ireturn, 1) := by decide +kernel
theorem dX10_betweenOf_0 : decode cX10_betweenOf 0 = .ok (.aload_n 0, 1) := by decide +kernel
theorem dX10_betweenOf_1 : decode cX10_betweenOf 1 = .ok (.getfield 88, 3) := by decide +kernel
theorem dX10_betweenOf_4 : decode cX10_betweenOf 4 = .ok (.bipush 43, 2) := by decide +kernel
theorem dX10_betweenOf_6 : decode cX10_betweenOf 6 = .ok (.if_icmp .ne 6, 3) := by decide +kernel
theorem dX10_betweenOf_9 : decode cX10_betweenOf 9 = .ok (.bipush 6, 2) := by decide +kernel
theorem dX10_betweenOf_11 : decode cX10_betweenOf 11 = .ok (.ireturn, 1) := by decide +kernel
theorem dX10_betweenOf_12 : decode cX10_betweenOf 12 = .ok (.aload_n 0, 1) := by decide +kernel
theorem dX10_betweenOf_13 : decode cX10_betweenOf 13 = .ok (.getfield 88, 3) := by decide +kernel
theorem dX10_betweenOf_16 : decode cX10_betweenOf 16 = .ok (.bipush 45, 2) := by decide +kernel
theorem dX10_betweenOf_18 : decode cX10_betweenOf 18 = .ok (.if_icmp .ne 6, 3) := by decide +kernel
theorem dX10_betweenOf_21 : decode cX10_betweenOf 21 = .ok (.bipush 7, 2) := by decide +kernel
theorem dX10_betweenOf_23 : decode cX10_betweenOf 23 = .ok (.ireturn, 1) := by decide +kernel
theorem dX10_betweenOf_24 : decode cX10_betweenOf 24 = .ok (.aload_n 0, 1) := by decide +kernel
theorem dX10_betweenOf_25 : decode cX10_betweenOf 25 = .ok (.getfield 88, 3) := by decide +kernel
theorem dX10_betweenOf_28 : decode cX10_betweenOf 28 = .ok (.bipush 42, 2) := by decide +kernel
theorem dX10_betweenOf_30 : decode cX10_betweenOf 30 = .ok (.if_icmp .ne 6, 3) := by decide +kernel
theorem dX10_betweenOf_33 : decode cX10_betweenOf 33 = .ok (.bipush 8, 2) := by decide +kernel
theorem dX10_betweenOf_35 : decode cX10_betweenOf 35 = .ok (.ireturn, 1) := by decide +kernel
theorem dX10_betweenOf_36 : decode cX10_betweenOf 36 = .ok (.aload_n 0, 1) := by decide +kernel
theorem dX10_betweenOf_37 : decode cX10_betweenOf 37 = .ok (.getfield 88, 3) := by decide +kernel
theorem dX10_betweenOf_40 : decode cX10_betweenOf 40 = .ok (.bipush 47, 2) := by decide +kernel
theorem dX10_betweenOf_42 : decode cX10_betweenOf 42 = .ok (.if_icmp .ne 6, 3) := by decide +kernel
theorem dX10_betweenOf_45 : decode cX10_betweenOf 45 = .ok (.bipush 9, 2) := by decide +kernel
theorem dX10_betweenOf_47 : decode cX10_betweenOf 47 = .ok (.ireturn, 1) := by decide +kernel
theorem dX10_betweenOf_48 : decode cX10_betweenOf 48 = .ok (.aload_n 0, 1) := by decide +kernel
theorem dX10_betweenOf_49 : decode cX10_betweenOf 49 = .ok (.invokevirtual 153, 3) := by decide +kernel
theorem dX10_betweenOf_52 : decode cX10_betweenOf 52 = .ok (.bipush 41, 2) := by decide +kernel
theorem dX10_betweenOf_54 : decode cX10_betweenOf 54 = .ok (.if_icmp .eq 5, 3) := by decide +kernel
theorem dX10_betweenOf_57 : decode cX10_betweenOf 57 = .ok (.iconst (-1), 1) := by decide +kernel
theorem dX10_betweenOf_58 : decode cX10_betweenOf 58 = .ok (.ireturn, 1) := by decide +kernel
theorem dX10_betweenOf_59 : decode cX10_betweenOf 59 = .ok (.aload_n 0, 1) := by decide +kernel
theorem dX10_betweenOf_60 : decode cX10_betweenOf 60 = .ok (.invokevirtual 185, 3) := by decide +kernel
theorem dX10_betweenOf_63 : decode cX10_betweenOf 63 = .ok (.ifCond .ne 8, 3) := by decide +kernel
theorem dX10_betweenOf_66 : decode cX10_betweenOf 66 = .ok (.aload_n 0, 1) := by decide +kernel
theorem dX10_betweenOf_67 : decode cX10_betweenOf 67 = .ok (.invokevirtual 188, 3) := by decide +kernel
theorem dX10_betweenOf_70 : decode cX10_betweenOf 70 = .ok (.ireturn, 1) := by decide +kernel
theorem dX10_betweenOf_71 : decode cX10_betweenOf 71 = .ok (.aload_n 0, 1) := by decide +kernel
theorem dX10_betweenOf_72 : decode cX10_betweenOf 72 = .ok (.bipush 97, 2) := by decide +kernel
theorem dX10_betweenOf_74 : decode cX10_betweenOf 74 = .ok (.bipush 110, 2) := by decide +kernel
theorem dX10_betweenOf_76 : decode cX10_betweenOf 76 = .ok (.bipush 100, 2) := by decide +kernel
theorem dX10_betweenOf_78 : decode cX10_betweenOf 78 = .ok (.invokestatic 114, 3) := by decide +kernel
theorem dX10_betweenOf_81 : decode cX10_betweenOf 81 = .ok (.invokevirtual 178, 3) := by decide +kernel
theorem dX10_betweenOf_84 : decode cX10_betweenOf 84 = .ok (.ifCond .eq 8, 3) := by decide +kernel
theorem dX10_betweenOf_87 : decode cX10_betweenOf 87 = .ok (.bipush 21, 2) := by decide +kernel
theorem dX10_betweenOf_89 : decode cX10_betweenOf 89 = .ok (.goto 23, 3) := by decide +kernel
theorem dX10_betweenOf_92 : decode cX10_betweenOf 92 = .ok (.aload_n 0, 1) := by decide +kernel
theorem dX10_betweenOf_93 : decode cX10_betweenOf 93 = .ok (.bipush 111, 2) := by decide +kernel
theorem dX10_betweenOf_95 : decode cX10_betweenOf 95 = .ok (.bipush 114, 2) := by decide +kernel
theorem dX10_betweenOf_97 : decode cX10_betweenOf 97 = .ok (.invokestatic 110, 3) := by decide +kernel
theorem dX10_betweenOf_100 : decode cX10_betweenOf 100 = .ok (.invokevirtual 178, 3) := by decide +kernel
theorem dX10_betweenOf_103 : decode cX10_betweenOf 103 = .ok (.ifCond .eq 8, 3) := by decide +kernel
theorem dX10_betweenOf_106 : decode cX10_betweenOf 106 = .ok (.bipush 22, 2) := by decide +kernel
theorem dX10_betweenOf_108 : decode cX10_betweenOf 108 = .ok (.goto 4, 3) := by decide +kernel
theorem dX10_betweenOf_111 : decode cX10_betweenOf 111 = .ok (.iconst (-1), 1) := by decide +kernel
theorem dX10_betweenOf_112 : decode cX10_betweenOf 112 = .ok (.ireturn, 1) := by decide +kernel
theorem dX10_partOf_0 : decode cX10_partOf 0 = .ok (.iload_n 1, 1) := by decide +kernel
theorem dX10_partOf_1 : decode cX10_partOf 1 = .ok (.tableswitch 125 40 43 #[31, 46, 78, 103], 31) := by decide +kernel
theorem dX10_partOf_32 : decode cX10_partOf 32 = .ok (.aload_n 0, 1) := by decide +kernel
theorem dX10_partOf_33 : decode cX10_partOf 33 = .ok (.getfield 88, 3) := by decide +kernel
theorem dX10_partOf_36 : decode cX10_partOf 36 = .ok (.bipush 41, 2) := by decide +kernel
theorem dX10_partOf_38 : decode cX10_partOf 38 = .ok (.if_icmp .ne 7, 3) := by decide +kernel
theorem dX10_partOf_41 : decode cX10_partOf 41 = .ok (.iconst 0, 1) := by decide +kernel
theorem dX10_partOf_42 : decode cX10_partOf 42 = .ok (.goto 4, 3) := by decide +kernel
theorem dX10_partOf_45 : decode cX10_partOf 45 = .ok (.iconst (-1), 1) := by decide +kernel
theorem dX10_partOf_46 : decode cX10_partOf 46 = .ok (.ireturn, 1) := by decide +kernel
theorem dX10_partOf_47 : decode cX10_partOf 47 = .ok (.aload_n 0, 1) := by decide +kernel
theorem dX10_partOf_48 : decode cX10_partOf 48 = .ok (.bipush 116, 2) := by decide +kernel
theorem dX10_partOf_50 : decode cX10_partOf 50 = .ok (.bipush 104, 2) := by decide +kernel
theorem dX10_partOf_52 : decode cX10_partOf 52 = .ok (.bipush 101, 2) := by decide +kernel
theorem dX10_partOf_54 : decode cX10_partOf 54 = .ok (.bipush 110, 2) := by decide +kernel
theorem dX10_partOf_56 : decode cX10_partOf 56 = .ok (.invokestatic 118, 3) := by decide +kernel
theorem dX10_partOf_59 : decode cX10_partOf 59 = .ok (.invokevirtual 178, 3) := by decide +kernel
theorem dX10_partOf_62 : decode cX10_partOf 62 = .ok (.ifCond .eq 15, 3) := by decide +kernel
theorem dX10_partOf_65 : decode cX10_partOf 65 = .ok (.aload_n 0, 1) := by decide +kernel
theorem dX10_partOf_66 : decode cX10_partOf 66 = .ok (.invokevirtual 185, 3) := by decide +kernel
theorem dX10_partOf_69 : decode cX10_partOf 69 = .ok (.ifCond .eq 8, 3) := by decide +kernel
theorem dX10_partOf_72 : decode cX10_partOf 72 = .ok (.bipush 42, 2) := by decide +kernel
theorem dX10_partOf_74 : decode cX10_partOf 74 = .ok (.goto 4, 3) := by decide +kernel
theorem dX10_partOf_77 : decode cX10_partOf 77 = .ok (.iconst (-1), 1) := by decide +kernel
theorem dX10_partOf_78 : decode cX10_partOf 78 = .ok (.ireturn, 1) := by decide +kernel
theorem dX10_partOf_79 : decode cX10_partOf 79 = .ok (.aload_n 0, 1) := by decide +kernel
theorem dX10_partOf_80 : decode cX10_partOf 80 = .ok (.bipush 101, 2) := by decide +kernel
theorem dX10_partOf_82 : decode cX10_partOf 82 = .ok (.bipush 108, 2) := by decide +kernel
theorem dX10_partOf_84 : decode cX10_partOf 84 = .ok (.bipush 115, 2) := by decide +kernel
theorem dX10_partOf_86 : decode cX10_partOf 86 = .ok (.bipush 101, 2) := by decide +kernel
theorem dX10_partOf_88 : decode cX10_partOf 88 = .ok (.invokestatic 118, 3) := by decide +kernel
theorem dX10_partOf_91 : decode cX10_partOf 91 = .ok (.invokevirtual 178, 3) := by decide +kernel
theorem dX10_partOf_94 : decode cX10_partOf 94 = .ok (.ifCond .eq 8, 3) := by decide +kernel
theorem dX10_partOf_97 : decode cX10_partOf 97 = .ok (.bipush 43, 2) := by decide +kernel
theorem dX10_partOf_99 : decode cX10_partOf 99 = .ok (.goto 4, 3) := by decide +kernel
theorem dX10_partOf_102 : decode cX10_partOf 102 = .ok (.iconst (-1), 1) := by decide +kernel
theorem dX10_partOf_103 : decode cX10_partOf 103 = .ok (.ireturn, 1) := by decide +kernel
theorem dX10_partOf_104 : decode cX10_partOf 104 = .ok (.aload_n 0, 1) := by decide +kernel
theorem dX10_partOf_105 : decode cX10_partOf 105 = .ok (.bipush 101, 2) := by decide +kernel
theorem dX10_partOf_107 : decode cX10_partOf 107 = .ok (.bipush 110, 2) := by decide +kernel
theorem dX10_partOf_109 : decode cX10_partOf 109 = .ok (.bipush 100, 2) := by decide +kernel
theorem dX10_partOf_111 : decode cX10_partOf 111 = .ok (.invokestatic 114, 3) := by decide +kernel
theorem dX10_partOf_114 : decode cX10_partOf 114 = .ok (.invokevirtual 178, 3) := by decide +kernel
theorem dX10_partOf_117 : decode cX10_partOf 117 = .ok (.ifCond .eq 7, 3) := by decide +kernel
theorem dX10_partOf_120 : decode cX10_partOf 120 = .ok (.iconst 0, 1) := by decide +kernel
theorem dX10_partOf_121 : decode cX10_partOf 121 = .ok (.goto 4, 3) := by decide +kernel
theorem dX10_partOf_124 : decode cX10_partOf 124 = .ok (.iconst (-1), 1) := by decide +kernel
theorem dX10_partOf_125 : decode cX10_partOf 125 = .ok (.ireturn, 1) := by decide +kernel
theorem dX10_partOf_126 : decode cX10_partOf 126 = .ok (.iconst (-1), 1) := by decide +kernel
theorem dX10_partOf_127 : decode cX10_partOf 127 = .ok (.ireturn, 1) := by decide +kernel
theorem dX10_behindOne_0 : decode cX10_behindOne 0 = .ok (.aload_n 0, 1) := by decide +kernel
theorem dX10_behindOne_1 : decode cX10_behindOne 1 = .ok (.invokevirtual 191, 3) := by decide +kernel
theorem dX10_behindOne_4 : decode cX10_behindOne 4 = .ok (.istore_n 1, 1) := by decide +kernel
theorem dX10_behindOne_5 : decode cX10_behindOne 5 = .ok (.iload_n 1, 1) := by decide +kernel
theorem dX10_behindOne_6 : decode cX10_behindOne 6 = .ok (.ifCond .lt 54, 3) := by decide +kernel
theorem dX10_behindOne_9 : decode cX10_behindOne 9 = .ok (.aload_n 0, 1) := by decide +kernel
theorem dX10_behindOne_10 : decode cX10_behindOne 10 = .ok (.iload_n 1, 1) := by decide +kernel
