theorem dX2_init_0 : decode cX2_init 0 = .ok (.aload_n 0, 1) := by decide +kernel
theorem dX2_init_1 : decode cX2_init 1 = .ok (.invokespecial 3, 3) := by decide +kernel
theorem dX2_init_4 : decode cX2_init 4 = .ok (.aload_n 0, 1) := by decide +kernel
theorem dX2_init_5 : decode cX2_init 5 = .ok (.bipush 64, 2) := by decide +kernel
theorem dX2_init_7 : decode cX2_init 7 = .ok (.newarray .long, 2) := by decide +kernel
theorem dX2_init_9 : decode cX2_init 9 = .ok (.putfield 9, 3) := by decide +kernel
theorem dX2_init_12 : decode cX2_init 12 = .ok (.aload_n 0, 1) := by decide +kernel
theorem dX2_init_13 : decode cX2_init 13 = .ok (.aload_n 1, 1) := by decide +kernel
theorem dX2_init_14 : decode cX2_init 14 = .ok (.putfield 15, 3) := by decide +kernel
theorem dX2_init_17 : decode cX2_init 17 = .ok (.aload_n 0, 1) := by decide +kernel
theorem dX2_init_18 : decode cX2_init 18 = .ok (.aload_n 1, 1) := by decide +kernel
theorem dX2_init_19 : decode cX2_init 19 = .ok (.getfield 19, 3) := by decide +kernel
theorem dX2_init_22 : decode cX2_init 22 = .ok (.putfield 25, 3) := by decide +kernel
theorem dX2_init_25 : decode cX2_init 25 = .ok (.return_, 1) := by decide +kernel
theorem dX2_push_0 : decode cX2_push 0 = .ok (.aload_n 1, 1) := by decide +kernel
theorem dX2_push_1 : decode cX2_push 1 = .ok (.getfield 26, 3) := by decide +kernel
theorem dX2_push_4 : decode cX2_push 4 = .ok (.iload_n 3, 1) := by decide +kernel
theorem dX2_push_5 : decode cX2_push 5 = .ok (.iaload, 1) := by decide +kernel
theorem dX2_push_6 : decode cX2_push 6 = .ok (.istore 5, 2) := by decide +kernel
theorem dX2_push_8 : decode cX2_push 8 = .ok (.aload_n 0, 1) := by decide +kernel
theorem dX2_push_9 : decode cX2_push 9 = .ok (.aload_n 0, 1) := by decide +kernel
theorem dX2_push_10 : decode cX2_push 10 = .ok (.getfield 15, 3) := by decide +kernel
theorem dX2_push_13 : decode cX2_push 13 = .ok (.aload_n 0, 1) := by decide +kernel
theorem dX2_push_14 : decode cX2_push 14 = .ok (.getfield 15, 3) := by decide +kernel
theorem dX2_push_17 : decode cX2_push 17 = .ok (.getfield 32, 3) := by decide +kernel
theorem dX2_push_20 : decode cX2_push 20 = .ok (.invokevirtual 36, 3) := by decide +kernel
theorem dX2_push_23 : decode cX2_push 23 = .ok (.aload_n 1, 1) := by decide +kernel
theorem dX2_push_24 : decode cX2_push 24 = .ok (.iload_n 2, 1) := by decide +kernel
theorem dX2_push_25 : decode cX2_push 25 = .ok (.iload_n 3, 1) := by decide +kernel
theorem dX2_push_26 : decode cX2_push 26 = .ok (.iload 4, 2) := by decide +kernel
theorem dX2_push_28 : decode cX2_push 28 = .ok (.invokevirtual 40, 3) := by decide +kernel
theorem dX2_push_31 : decode cX2_push 31 = .ok (.istore 6, 2) := by decide +kernel
theorem dX2_push_33 : decode cX2_push 33 = .ok (.iload 4, 2) := by decide +kernel
theorem dX2_push_35 : decode cX2_push 35 = .ok (.ifCond .eq 9, 3) := by decide +kernel
theorem dX2_push_38 : decode cX2_push 38 = .ok (.iload_n 3, 1) := by decide +kernel
theorem dX2_push_39 : decode cX2_push 39 = .ok (.iconst 1, 1) := by decide +kernel
theorem dX2_push_40 : decode cX2_push 40 = .ok (.iadd, 1) := by decide +kernel
theorem dX2_push_41 : decode cX2_push 41 = .ok (.goto 6, 3) := by decide +kernel
theorem dX2_push_44 : decode cX2_push 44 = .ok (.iload_n 3, 1) := by decide +kernel
theorem dX2_push_45 : decode cX2_push 45 = .ok (.iconst 1, 1) := by decide +kernel
theorem dX2_push_46 : decode cX2_push 46 = .ok (.isub, 1) := by decide +kernel
theorem dX2_push_47 : decode cX2_push 47 = .ok (.istore 7, 2) := by decide +kernel
theorem dX2_push_49 : decode cX2_push 49 = .ok (.iload 7, 2) := by decide +kernel
theorem dX2_push_51 : decode cX2_push 51 = .ok (.ifCond .lt 10, 3) := by decide +kernel
theorem dX2_push_54 : decode cX2_push 54 = .ok (.iload 7, 2) := by decide +kernel
theorem dX2_push_56 : decode cX2_push 56 = .ok (.bipush 12, 2) := by decide +kernel
theorem dX2_push_58 : decode cX2_push 58 = .ok (.if_icmp .lt 7, 3) := by decide +kernel
theorem dX2_push_61 : decode cX2_push 61 = .ok (.iconst 1, 1) := by decide +kernel
theorem dX2_push_62 : decode cX2_push 62 = .ok (.goto 4, 3) := by decide +kernel
theorem dX2_push_65 : decode cX2_push 65 = .ok (.iconst 0, 1) := by decide +kernel
theorem dX2_push_66 : decode cX2_push 66 = .ok (.istore 8, 2) := by decide +kernel
theorem dX2_push_68 : decode cX2_push 68 = .ok (.aload_n 1, 1) := by decide +kernel
theorem dX2_push_69 : decode cX2_push 69 = .ok (.getfield 26, 3) := by decide +kernel
theorem dX2_push_72 : decode cX2_push 72 = .ok (.iload_n 3, 1) := by decide +kernel
theorem dX2_push_73 : decode cX2_push 73 = .ok (.iload 5, 2) := by decide +kernel
theorem dX2_push_75 : decode cX2_push 75 = .ok (.iload 6, 2) := by decide +kernel
theorem dX2_push_77 : decode cX2_push 77 = .ok (.isub, 1) := by decide +kernel
theorem dX2_push_78 : decode cX2_push 78 = .ok (.iastore, 1) := by decide +kernel
theorem dX2_push_79 : decode cX2_push 79 = .ok (.iload 8, 2) := by decide +kernel
theorem dX2_push_81 : decode cX2_push 81 = .ok (.ifCond .eq 17, 3) := by decide +kernel
theorem dX2_push_84 : decode cX2_push 84 = .ok (.aload_n 1, 1) := by decide +kernel
theorem dX2_push_85 : decode cX2_push 85 = .ok (.dup, 1) := by decide +kernel
theorem dX2_push_86 : decode cX2_push 86 = .ok (.getfield 44, 3) := by decide +kernel
theorem dX2_push_89 : decode cX2_push 89 = .ok (.iload 6, 2) := by decide +kernel
theorem dX2_push_91 : decode cX2_push 91 = .ok (.iadd, 1) := by decide +kernel
theorem dX2_push_92 : decode cX2_push 92 = .ok (.putfield 44, 3) := by decide +kernel
theorem dX2_push_95 : decode cX2_push 95 = .ok (.goto 15, 3) := by decide +kernel
theorem dX2_push_98 : decode cX2_push 98 = .ok (.aload_n 1, 1) := by decide +kernel
theorem dX2_push_99 : decode cX2_push 99 = .ok (.getfield 26, 3) := by decide +kernel
theorem dX2_push_102 : decode cX2_push 102 = .ok (.iload 7, 2) := by decide +kernel
theorem dX2_push_104 : decode cX2_push 104 = .ok (.dup2, 1) := by decide +kernel
theorem dX2_push_105 : decode cX2_push 105 = .ok (.iaload, 1) := by decide +kernel
theorem dX2_push_106 : decode cX2_push 106 = .ok (.iload 6, 2) := by decide +kernel
theorem dX2_push_108 : decode cX2_push 108 = .ok (.iadd, 1) := by decide +kernel
theorem dX2_push_109 : decode cX2_push 109 = .ok (.iastore, 1) := by decide +kernel
theorem dX2_push_110 : decode cX2_push 110 = .ok (.iload 6, 2) := by decide +kernel
theorem dX2_push_112 : decode cX2_push 112 = .ok (.iload 5, 2) := by decide +kernel
theorem dX2_push_114 : decode cX2_push 114 = .ok (.iload 6, 2) := by decide +kernel
theorem dX2_push_116 : decode cX2_push 116 = .ok (.isub, 1) := by decide +kernel
theorem dX2_push_117 : decode cX2_push 117 = .ok (.if_icmp .le 19, 3) := by decide +kernel
theorem dX2_push_120 : decode cX2_push 120 = .ok (.aload_n 1, 1) := by decide +kernel
theorem dX2_push_121 : decode cX2_push 121 = .ok (.iload_n 3, 1) := by decide +kernel
theorem dX2_push_122 : decode cX2_push 122 = .ok (.iload 8, 2) := by decide +kernel
theorem dX2_push_124 : decode cX2_push 124 = .ok (.ifCond .eq 7, 3) := by decide +kernel
theorem dX2_push_127 : decode cX2_push 127 = .ok (.iconst (-1), 1) := by decide +kernel
theorem dX2_push_128 : decode cX2_push 128 = .ok (.goto 5, 3) := by decide +kernel
theorem dX2_push_131 : decode cX2_push 131 = .ok (.iload 7, 2) := by decide +kernel
theorem dX2_push_133 : decode cX2_push 133 = .ok (.invokevirtual 47, 3) := by decide +kernel
theorem dX2_push_136 : decode cX2_push 136 = .ok (.aload_n 1, 1) := by decide +kernel
theorem dX2_push_137 : decode cX2_push 137 = .ok (.getfield 26, 3) := by decide +kernel
theorem dX2_push_140 : decode cX2_push 140 = .ok (.iload_n 3, 1) := by decide +kernel
theorem dX2_push_141 : decode cX2_push 141 = .ok (.iaload, 1) := by decide +kernel
theorem dX2_push_142 : decode cX2_push 142 = .ok (.aload_n 0, 1) := by decide +kernel
theorem dX2_push_143 : decode cX2_push 143 = .ok (.aload_n 1, 1) := by decide +kernel
theorem dX2_push_144 : decode cX2_push 144 = .ok (.iload_n 3, 1) := by decide +kernel
theorem dX2_push_145 : decode cX2_push 145 = .ok (.invokevirtual 51, 3) := by decide +kernel
theorem dX2_push_148 : decode cX2_push 148 = .ok (.if_icmp .ge 15, 3) := by decide +kernel
theorem dX2_push_151 : decode cX2_push 151 = .ok (.aload_n 1, 1) := by decide +kernel
theorem dX2_push_152 : decode cX2_push 152 = .ok (.dup, 1) := by decide +kernel
theorem dX2_push_153 : decode cX2_push 153 = .ok (.getfield 55, 3) := by decide +kernel
theorem dX2_push_156 : decode cX2_push 156 = .ok (.iconst 1, 1) := by decide +kernel
theorem dX2_push_157 : decode cX2_push 157 = .ok (.iload_n 3, 1) := by decide +kernel
theorem dX2_push_158 : decode cX2_push 158 = .ok (.ishl, 1) := by decide +kernel
theorem dX2_push_159 : decode cX2_push 159 = .ok (.ior, 1) := by decide +kernel
theorem dX2_push_160 : decode cX2_push 160 = .ok (.putfield 55, 3) := by decide +kernel
theorem dX2_push_163 : decode cX2_push 163 = .ok (.aload_n 1, 1) := by decide +kernel
theorem dX2_push_164 : decode cX2_push 164 = .ok (.iload_n 2, 1) := by decide +kernel
theorem dX2_push_165 : decode cX2_push 165 = .ok (.iconst 2, 1) := by decide +kernel
theorem dX2_push_166 : decode cX2_push 166 = .ok (.iload_n 3, 1) := by decide +kernel
theorem dX2_push_167 : decode cX2_push 167 = .ok (.imul, 1) := by decide +kernel
theorem dX2_push_168 : decode cX2_push 168 = .ok (.iload 4, 2) := by decide +kernel
theorem dX2_push_170 : decode cX2_push 170 = .ok (.ifCond .eq 7, 3) := by decide +kernel
theorem dX2_push_173 : decode cX2_push 173 = .ok (.iconst 1, 1) := by decide +kernel
theorem dX2_push_174 : decode cX2_push 174 = .ok (.goto 4, 3) := by decide +kernel
theorem dX2_push_177 : decode cX2_push 177 = .ok (.iconst 0, 1) := by decide +kernel
theorem dX2_push_178 : decode cX2_push 178 = .ok (.iadd, 1) := by decide +kernel
theorem dX2_push_179 : decode cX2_push 179 = .ok (.iload 6, 2) := by decide +kernel
theorem dX2_push_181 : decode cX2_push 181 = .ok (.invokevirtual 58, 3) := by decide +kernel
theorem dX2_push_184 : decode cX2_push 184 = .ok (.iload 6, 2) := by decide +kernel
theorem dX2_push_186 : decode cX2_push 186 = .ok (.ireturn, 1) := by decide +kernel
theorem dX2_amount_0 : decode cX2_amount 0 = .ok (.aload_n 2, 1) := by decide +kernel
theorem dX2_amount_1 : decode cX2_amount 1 = .ok (.getfield 26, 3) := by decide +kernel
theorem dX2_amount_4 : decode cX2_amount 4 = .ok (.iload 4, 2) := by decide +kernel
theorem dX2_amount_6 : decode cX2_amount 6 = .ok (.iaload, 1) := by decide +kernel
theorem dX2_amount_7 : decode cX2_amount 7 = .ok (.istore 6, 2) := by decide +kernel
theorem dX2_amount_9 : decode cX2_amount 9 = .ok (.aload_n 1, 1) := by decide +kernel
theorem dX2_amount_10 : decode cX2_amount 10 = .ok (.arraylength, 1) := by decide +kernel
theorem dX2_amount_11 : decode cX2_amount 11 = .ok (.ifCond .ne 8, 3) := by decide +kernel
theorem dX2_amount_14 : decode cX2_amount 14 = .ok (.iload 6, 2) := by decide +kernel
theorem dX2_amount_16 : decode cX2_amount 16 = .ok (.iconst 2, 1) := by decide +kernel
theorem dX2_amount_17 : decode cX2_amount 17 = .ok (.idiv, 1) := by decide +kernel
theorem dX2_amount_18 : decode cX2_amount 18 = .ok (.ireturn, 1) := by decide +kernel
theorem dX2_amount_19 : decode cX2_amount 19 = .ok (.aload_n 0, 1) := by decide +kernel
theorem dX2_amount_20 : decode cX2_amount 20 = .ok (.aload_n 2, 1) := by decide +kernel
theorem dX2_amount_21 : decode cX2_amount 21 = .ok (.putfield 25, 3) := by decide +kernel
theorem dX2_amount_24 : decode cX2_amount 24 = .ok (.aload_n 0, 1) := by decide +kernel
theorem dX2_amount_25 : decode cX2_amount 25 = .ok (.iload_n 3, 1) := by decide +kernel
theorem dX2_amount_26 : decode cX2_amount 26 = .ok (.putfield 62, 3) := by decide +kernel
theorem dX2_amount_29 : decode cX2_amount 29 = .ok (.aload_n 0, 1) := by decide +kernel
theorem dX2_amount_30 : decode cX2_amount 30 = .ok (.iload 4, 2) := by decide +kernel
theorem dX2_amount_32 : decode cX2_amount 32 = .ok (.putfield 65, 3) := by decide +kernel
theorem dX2_amount_35 : decode cX2_amount 35 = .ok (.aload_n 0, 1) := by decide +kernel
theorem dX2_amount_36 : decode cX2_amount 36 = .ok (.iload 5, 2) := by decide +kernel
theorem dX2_amount_38 : decode cX2_amount 38 = .ok (.putfield 68, 3) := by decide +kernel
theorem dX2_amount_41 : decode cX2_amount 41 = .ok (.lconst 0, 1) := by decide +kernel
theorem dX2_amount_42 : decode cX2_amount 42 = .ok (.iload 6, 2) := by decide +kernel
theorem dX2_amount_44 : decode cX2_amount 44 = .ok (.i2l, 1) := by decide +kernel
theorem dX2_amount_45 : decode cX2_amount 45 = .ok (.aload_n 0, 1) := by decide +kernel
theorem dX2_amount_46 : decode cX2_amount 46 = .ok (.aload_n 1, 1) := by decide +kernel
theorem dX2_amount_47 : decode cX2_amount 47 = .ok (.invokevirtual 72, 3) := by decide +kernel
theorem dX2_amount_50 : decode cX2_amount 50 = .ok (.invokestatic 76, 3) := by decide +kernel
theorem dX2_amount_53 : decode cX2_amount 53 = .ok (.invokestatic 82, 3) := by decide +kernel
theorem dX2_amount_56 : decode cX2_amount 56 = .ok (.l2i, 1) := by decide +kernel
theorem dX2_amount_57 : decode cX2_amount 57 = .ok (.ireturn, 1) := by decide +kernel
theorem dX2_tearing_0 : decode cX2_tearing 0 = .ok (.aload_n 0, 1) := by decide +kernel
theorem dX2_tearing_1 : decode cX2_tearing 1 = .ok (.getfield 15, 3) := by decide +kernel
theorem dX2_tearing_4 : decode cX2_tearing 4 = .ok (.aload_n 0, 1) := by decide +kernel
theorem dX2_tearing_5 : decode cX2_tearing 5 = .ok (.getfield 15, 3) := by decide +kernel
theorem dX2_tearing_8 : decode cX2_tearing 8 = .ok (.getfield 32, 3) := by decide +kernel
theorem dX2_tearing_11 : decode cX2_tearing 11 = .ok (.invokevirtual 85, 3) := by decide +kernel
theorem dX2_tearing_14 : decode cX2_tearing 14 = .ok (.astore_n 3, 1) := by decide +kernel
theorem dX2_tearing_15 : decode cX2_tearing 15 = .ok (.aload_n 3, 1) := by decide +kernel
theorem dX2_tearing_16 : decode cX2_tearing 16 = .ok (.arraylength, 1) := by decide +kernel
theorem dX2_tearing_17 : decode cX2_tearing 17 = .ok (.ifCond .ne 5, 3) := by decide +kernel
theorem dX2_tearing_20 : decode cX2_tearing 20 = .ok (.iconst 3, 1) := by decide +kernel
theorem dX2_tearing_21 : decode cX2_tearing 21 = .ok (.ireturn, 1) := by decide +kernel
theorem dX2_tearing_22 : decode cX2_tearing 22 = .ok (.aload_n 0, 1) := by decide +kernel
theorem dX2_tearing_23 : decode cX2_tearing 23 = .ok (.aload_n 1, 1) := by decide +kernel
theorem dX2_tearing_24 : decode cX2_tearing 24 = .ok (.putfield 25, 3) := by decide +kernel
theorem dX2_tearing_27 : decode cX2_tearing 27 = .ok (.aload_n 0, 1) := by decide +kernel
theorem dX2_tearing_28 : decode cX2_tearing 28 = .ok (.iload_n 2, 1) := by decide +kernel
theorem dX2_tearing_29 : decode cX2_tearing 29 = .ok (.putfield 65, 3) := by decide +kernel
theorem dX2_tearing_32 : decode cX2_tearing 32 = .ok (.lconst 0, 1) := by decide +kernel
theorem dX2_tearing_33 : decode cX2_tearing 33 = .ok (.ldc2_w 88, 3) := by decide +kernel
theorem dX2_tearing_36 : decode cX2_tearing 36 = .ok (.aload_n 0, 1) := by decide +kernel
theorem dX2_tearing_37 : decode cX2_tearing 37 = .ok (.aload_n 3, 1) := by decide +kernel
theorem dX2_tearing_38 : decode cX2_tearing 38 = .ok (.invokevirtual 72, 3) := by decide +kernel
theorem dX2_tearing_41 : decode cX2_tearing 41 = .ok (.invokestatic 76, 3) := by decide +kernel
theorem dX2_tearing_44 : decode cX2_tearing 44 = .ok (.invokestatic 82, 3) := by decide +kernel
theorem dX2_tearing_47 : decode cX2_tearing 47 = .ok (.l2i, 1) := by decide +kernel
theorem dX2_tearing_48 : decode cX2_tearing 48 = .ok (.ireturn, 1) := by decide +kernel
theorem dX2_passTurn_0 : decode cX2_passTurn 0 = .ok (.aload_n 0, 1) := by decide +kernel
theorem dX2_passTurn_1 : decode cX2_passTurn 1 = .ok (.getfield 15, 3) := by decide +kernel
theorem dX2_passTurn_4 : decode cX2_passTurn 4 = .ok (.getfield 90, 3) := by decide +kernel
theorem dX2_passTurn_7 : decode cX2_passTurn 7 = .ok (.ifCond .le 56, 3) := by decide +kernel
theorem dX2_passTurn_10 : decode cX2_passTurn 10 = .ok (.aload_n 1, 1) := by decide +kernel
theorem dX2_passTurn_11 : decode cX2_passTurn 11 = .ok (.invokevirtual 93, 3) := by decide +kernel
theorem dX2_passTurn_14 : decode cX2_passTurn 14 = .ok (.bipush 12, 2) := by decide +kernel
theorem dX2_passTurn_16 : decode cX2_passTurn 16 = .ok (.irem, 1) := by decide +kernel
theorem dX2_passTurn_17 : decode cX2_passTurn 17 = .ok (.istore_n 2, 1) := by decide +kernel
theorem dX2_passTurn_18 : decode cX2_passTurn 18 = .ok (.aload_n 1, 1) := by decide +kernel
theorem dX2_passTurn_19 : decode cX2_passTurn 19 = .ok (.invokevirtual 93, 3) := by decide +kernel
theorem dX2_passTurn_22 : decode cX2_passTurn 22 = .ok (.iconst 2, 1) := by decide +kernel
theorem dX2_passTurn_23 : decode cX2_passTurn 23 = .ok (.irem, 1) := by decide +kernel
theorem dX2_passTurn_24 : decode cX2_passTurn 24 = .ok (.iconst 1, 1) := by decide +kernel
theorem dX2_passTurn_25 : decode cX2_passTurn 25 = .ok (.if_icmp .ne 7, 3) := by decide +kernel
theorem dX2_passTurn_28 : decode cX2_passTurn 28 = .ok (.iconst 1, 1) := by decide +kernel
theorem dX2_passTurn_29 : decode cX2_passTurn 29 = .ok (.goto 4, 3) := by decide +kernel
theorem dX2_passTurn_32 : decode cX2_passTurn 32 = .ok (.iconst 0, 1) := by decide +kernel
theorem dX2_passTurn_33 : decode cX2_passTurn 33 = .ok (.istore_n 3, 1) := by decide +kernel
theorem dX2_passTurn_34 : decode cX2_passTurn 34 = .ok (.aload_n 1, 1) := by decide +kernel
theorem dX2_passTurn_35 : decode cX2_passTurn 35 = .ok (.getfield 26, 3) := by decide +kernel
theorem dX2_passTurn_38 : decode cX2_passTurn 38 = .ok (.iload_n 2, 1) := by decide +kernel
theorem dX2_passTurn_39 : decode cX2_passTurn 39 = .ok (.iaload, 1) := by decide +kernel
theorem dX2_passTurn_40 : decode cX2_passTurn 40 = .ok (.ifCond .le 23, 3) := by decide +kernel
theorem dX2_passTurn_43 : decode cX2_passTurn 43 = .ok (.aload_n 0, 1) := by decide +kernel
theorem dX2_passTurn_44 : decode cX2_passTurn 44 = .ok (.aload_n 1, 1) := by decide +kernel
theorem dX2_passTurn_45 : decode cX2_passTurn 45 = .ok (.aload_n 1, 1) := by decide +kernel
theorem dX2_passTurn_46 : decode cX2_passTurn 46 = .ok (.getfield 97, 3) := by decide +kernel
theorem dX2_passTurn_49 : decode cX2_passTurn 49 = .ok (.aload_n 0, 1) := by decide +kernel
theorem dX2_passTurn_50 : decode cX2_passTurn 50 = .ok (.getfield 15, 3) := by decide +kernel
theorem dX2_passTurn_53 : decode cX2_passTurn 53 = .ok (.getfield 90, 3) := by decide +kernel
theorem dX2_passTurn_56 : decode cX2_passTurn 56 = .ok (.irem, 1) := by decide +kernel
theorem dX2_passTurn_57 : decode cX2_passTurn 57 = .ok (.iload_n 2, 1) := by decide +kernel
theorem dX2_passTurn_58 : decode cX2_passTurn 58 = .ok (.iload_n 3, 1) := by decide +kernel
theorem dX2_passTurn_59 : decode cX2_passTurn 59 = .ok (.invokevirtual 100, 3) := by decide +kernel
theorem dX2_passTurn_62 : decode cX2_passTurn 62 = .ok (.pop, 1) := by decide +kernel
theorem dX2_passTurn_63 : decode cX2_passTurn 63 = .ok (.aload_n 1, 1) := by decide +kernel
theorem dX2_passTurn_64 : decode cX2_passTurn 64 = .ok (.dup, 1) := by decide +kernel
theorem dX2_passTurn_65 : decode cX2_passTurn 65 = .ok (.getfield 97, 3) := by decide +kernel
theorem dX2_passTurn_68 : decode cX2_passTurn 68 = .ok (.iconst 1, 1) := by decide +kernel
theorem dX2_passTurn_69 : decode cX2_passTurn 69 = .ok (.iadd, 1) := by decide +kernel
theorem dX2_passTurn_70 : decode cX2_passTurn 70 = .ok (.putfield 97, 3) := by decide +kernel
theorem dX2_passTurn_73 : decode cX2_passTurn 73 = .ok (.return_, 1) := by decide +kernel
theorem dX2_passYear_0 : decode cX2_passYear 0 = .ok (.aload_n 1, 1) := by decide +kernel
theorem dX2_passYear_1 : decode cX2_passYear 1 = .ok (.invokevirtual 93, 3) := by decide +kernel
theorem dX2_passYear_4 : decode cX2_passYear 4 = .ok (.istore_n 2, 1) := by decide +kernel
theorem dX2_passYear_5 : decode cX2_passYear 5 = .ok (.iload_n 2, 1) := by decide +kernel
theorem dX2_passYear_6 : decode cX2_passYear 6 = .ok (.bipush 6, 2) := by decide +kernel
theorem dX2_passYear_8 : decode cX2_passYear 8 = .ok (.idiv, 1) := by decide +kernel
theorem dX2_passYear_9 : decode cX2_passYear 9 = .ok (.bipush 12, 2) := by decide +kernel
theorem dX2_passYear_11 : decode cX2_passYear 11 = .ok (.irem, 1) := by decide +kernel
theorem dX2_passYear_12 : decode cX2_passYear 12 = .ok (.istore_n 3, 1) := by decide +kernel
theorem dX2_passYear_13 : decode cX2_passYear 13 = .ok (.iload_n 2, 1) := by decide +kernel
theorem dX2_passYear_14 : decode cX2_passYear 14 = .ok (.bipush 6, 2) := by decide +kernel
theorem dX2_passYear_16 : decode cX2_passYear 16 = .ok (.irem, 1) := by decide +kernel
theorem dX2_passYear_17 : decode cX2_passYear 17 = .ok (.tableswitch 116 0 3 #[31, 31, 81, 88], 31) := by decide +kernel
theorem dX2_passYear_48 : decode cX2_passYear 48 = .ok (.aload_n 0, 1) := by decide +kernel
theorem dX2_passYear_49 : decode cX2_passYear 49 = .ok (.getfield 15, 3) := by decide +kernel
theorem dX2_passYear_52 : decode cX2_passYear 52 = .ok (.getfield 90, 3) := by decide +kernel
theorem dX2_passYear_55 : decode cX2_passYear 55 = .ok (.ifCond .le 93, 3) := by decide +kernel
theorem dX2_passYear_58 : decode cX2_passYear 58 = .ok (.aload_n 1, 1) := by decide +kernel
theorem dX2_passYear_59 : decode cX2_passYear 59 = .ok (.getfield 26, 3) := by decide +kernel
theorem dX2_passYear_62 : decode cX2_passYear 62 = .ok (.iload_n 3, 1) := by decide +kernel
theorem dX2_passYear_63 : decode cX2_passYear 63 = .ok (.iaload, 1) := by decide +kernel
theorem dX2_passYear_64 : decode cX2_passYear 64 = .ok (.ifCond .le 84, 3) := by decide +kernel
theorem dX2_passYear_67 : decode cX2_passYear 67 = .ok (.aload_n 0, 1) := by decide +kernel
theorem dX2_passYear_68 : decode cX2_passYear 68 = .ok (.aload_n 1, 1) := by decide +kernel
theorem dX2_passYear_69 : decode cX2_passYear 69 = .ok (.iload_n 2, 1) := by decide +kernel
theorem dX2_passYear_70 : decode cX2_passYear 70 = .ok (.aload_n 0, 1) := by decide +kernel
theorem dX2_passYear_71 : decode cX2_passYear 71 = .ok (.getfield 15, 3) := by decide +kernel
theorem dX2_passYear_74 : decode cX2_passYear 74 = .ok (.getfield 90, 3) := by decide +kernel
theorem dX2_passYear_77 : decode cX2_passYear 77 = .ok (.irem, 1) := by decide +kernel
theorem dX2_passYear_78 : decode cX2_passYear 78 = .ok (.iload_n 3, 1) := by decide +kernel
theorem dX2_passYear_79 : decode cX2_passYear 79 = .ok (.iload_n 2, 1) := by decide +kernel
theorem dX2_passYear_80 : decode cX2_passYear 80 = .ok (.iconst 4, 1) := by decide +kernel
theorem dX2_passYear_81 : decode cX2_passYear 81 = .ok (.irem, 1) := by decide +kernel
theorem dX2_passYear_82 : decode cX2_passYear 82 = .ok (.iconst 1, 1) := by decide +kernel
theorem dX2_passYear_83 : decode cX2_passYear 83 = .ok (.if_icmp .le 7, 3) := by decide +kernel
theorem dX2_passYear_86 : decode cX2_passYear 86 = .ok (.iconst 1, 1) := by decide +kernel
theorem dX2_passYear_87 : decode cX2_passYear 87 = .ok (.goto 4, 3) := by decide +kernel
theorem dX2_passYear_90 : decode cX2_passYear 90 = .ok (.iconst 0, 1) := by decide +kernel
theorem dX2_passYear_91 : decode cX2_passYear 91 = .ok (.invokevirtual 100, 3) := by decide +kernel
theorem dX2_passYear_94 : decode cX2_passYear 94 = .ok (.pop, 1) := by decide +kernel
theorem dX2_passYear_95 : decode cX2_passYear 95 = .ok (.goto 53, 3) := by decide +kernel
theorem dX2_passYear_98 : decode cX2_passYear 98 = .ok (.aload_n 1, 1) := by decide +kernel
theorem dX2_passYear_99 : decode cX2_passYear 99 = .ok (.invokevirtual 104, 3) := by decide +kernel
theorem dX2_passYear_102 : decode cX2_passYear 102 = .ok (.goto 46, 3) := by decide +kernel
theorem dX2_passYear_105 : decode cX2_passYear 105 = .ok (.aload_n 1, 1) := by decide +kernel
theorem dX2_passYear_106 : decode cX2_passYear 106 = .ok (.iload_n 3, 1) := by decide +kernel
theorem dX2_passYear_107 : decode cX2_passYear 107 = .ok (.iconst 1, 1) := by decide +kernel
theorem dX2_passYear_108 : decode cX2_passYear 108 = .ok (.iload_n 2, 1) := by decide +kernel
theorem dX2_passYear_109 : decode cX2_passYear 109 = .ok (.bipush 9, 2) := by decide +kernel
theorem dX2_passYear_111 : decode cX2_passYear 111 = .ok (.irem, 1) := by decide +kernel
theorem dX2_passYear_112 : decode cX2_passYear 112 = .ok (.iadd, 1) := by decide +kernel
theorem dX2_passYear_113 : decode cX2_passYear 113 = .ok (.invokevirtual 107, 3) := by decide +kernel
theorem dX2_passYear_116 : decode cX2_passYear 116 = .ok (.ifCond .eq 32, 3) := by decide +kernel
theorem dX2_passYear_119 : decode cX2_passYear 119 = .ok (.aload_n 1, 1) := by decide +kernel
theorem dX2_passYear_120 : decode cX2_passYear 120 = .ok (.iload_n 3, 1) := by decide +kernel
theorem dX2_passYear_121 : decode cX2_passYear 121 = .ok (.iconst 1, 1) := by decide +kernel
theorem dX2_passYear_122 : decode cX2_passYear 122 = .ok (.iload_n 2, 1) := by decide +kernel
theorem dX2_passYear_123 : decode cX2_passYear 123 = .ok (.bipush 9, 2) := by decide +kernel
theorem dX2_passYear_125 : decode cX2_passYear 125 = .ok (.irem, 1) := by decide +kernel
theorem dX2_passYear_126 : decode cX2_passYear 126 = .ok (.iadd, 1) := by decide +kernel
theorem dX2_passYear_127 : decode cX2_passYear 127 = .ok (.invokevirtual 111, 3) := by decide +kernel
theorem dX2_passYear_130 : decode cX2_passYear 130 = .ok (.goto 18, 3) := by decide +kernel
theorem dX2_passYear_133 : decode cX2_passYear 133 = .ok (.aload_n 1, 1) := by decide +kernel
theorem dX2_passYear_134 : decode cX2_passYear 134 = .ok (.getfield 97, 3) := by decide +kernel
theorem dX2_passYear_137 : decode cX2_passYear 137 = .ok (.sipush 9999, 3) := by decide +kernel
theorem dX2_passYear_140 : decode cX2_passYear 140 = .ok (.if_icmp .ge 8, 3) := by decide +kernel
theorem dX2_passYear_143 : decode cX2_passYear 143 = .ok (.aload_n 0, 1) := by decide +kernel
theorem dX2_passYear_144 : decode cX2_passYear 144 = .ok (.aload_n 1, 1) := by decide +kernel
theorem dX2_passYear_145 : decode cX2_passYear 145 = .ok (.invokevirtual 114, 3) := by decide +kernel
theorem dX2_passYear_148 : decode cX2_passYear 148 = .ok (.return_, 1) := by decide +kernel
theorem dX2_isLawOfAllSaid_0 : decode cX2_isLawOfAllSaid 0 = .ok (.aload_n 0, 1) := by decide +kernel
theorem dX2_isLawOfAllSaid_1 : decode cX2_isLawOfAllSaid 1 = .ok (.getfield 15, 3) := by decide +kernel
theorem dX2_isLawOfAllSaid_4 : decode cX2_isLawOfAllSaid 4 = .ok (.iload_n 1, 1) := by decide +kernel
theorem dX2_isLawOfAllSaid_5 : decode cX2_isLawOfAllSaid 5 = .ok (.invokevirtual 36, 3) := by decide +kernel
theorem dX2_isLawOfAllSaid_8 : decode cX2_isLawOfAllSaid 8 = .ok (.astore_n 2, 1) := by decide +kernel
theorem dX2_isLawOfAllSaid_9 : decode cX2_isLawOfAllSaid 9 = .ok (.aload_n 0, 1) := by decide +kernel
theorem dX2_isLawOfAllSaid_10 : decode cX2_isLawOfAllSaid 10 = .ok (.getfield 15, 3) := by decide +kernel
theorem dX2_isLawOfAllSaid_13 : decode cX2_isLawOfAllSaid 13 = .ok (.getfield 118, 3) := by decide +kernel
theorem dX2_isLawOfAllSaid_16 : decode cX2_isLawOfAllSaid 16 = .ok (.astore_n 3, 1) := by decide +kernel
theorem dX2_isLawOfAllSaid_17 : decode cX2_isLawOfAllSaid 17 = .ok (.iconst 0, 1) := by decide +kernel
theorem dX2_isLawOfAllSaid_18 : decode cX2_isLawOfAllSaid 18 = .ok (.istore 4, 2) := by decide +kernel
theorem dX2_isLawOfAllSaid_20 : decode cX2_isLawOfAllSaid 20 = .ok (.iload 4, 2) := by decide +kernel
theorem dX2_isLawOfAllSaid_22 : decode cX2_isLawOfAllSaid 22 = .ok (.iconst 3, 1) := by decide +kernel
theorem dX2_isLawOfAllSaid_23 : decode cX2_isLawOfAllSaid 23 = .ok (.aload_n 0, 1) := by decide +kernel
theorem dX2_isLawOfAllSaid_24 : decode cX2_isLawOfAllSaid 24 = .ok (.getfield 15, 3) := by decide +kernel
theorem dX2_isLawOfAllSaid_27 : decode cX2_isLawOfAllSaid 27 = .ok (.getfield 121, 3) := by decide +kernel
theorem dX2_isLawOfAllSaid_30 : decode cX2_isLawOfAllSaid 30 = .ok (.imul, 1) := by decide +kernel
theorem dX2_isLawOfAllSaid_31 : decode cX2_isLawOfAllSaid 31 = .ok (.if_icmp .ge 52, 3) := by decide +kernel
theorem dX2_isLawOfAllSaid_34 : decode cX2_isLawOfAllSaid 34 = .ok (.iload 4, 2) := by decide +kernel
theorem dX2_isLawOfAllSaid_36 : decode cX2_isLawOfAllSaid 36 = .ok (.iconst 2, 1) := by decide +kernel
theorem dX2_isLawOfAllSaid_37 : decode cX2_isLawOfAllSaid 37 = .ok (.iadd, 1) := by decide +kernel
theorem dX2_isLawOfAllSaid_38 : decode cX2_isLawOfAllSaid 38 = .ok (.aload_n 3, 1) := by decide +kernel
theorem dX2_isLawOfAllSaid_39 : decode cX2_isLawOfAllSaid 39 = .ok (.arraylength, 1) := by decide +kernel
theorem dX2_isLawOfAllSaid_40 : decode cX2_isLawOfAllSaid 40 = .ok (.if_icmp .ge 43, 3) := by decide +kernel
theorem dX2_isLawOfAllSaid_43 : decode cX2_isLawOfAllSaid 43 = .ok (.aload_n 0, 1) := by decide +kernel
theorem dX2_isLawOfAllSaid_44 : decode cX2_isLawOfAllSaid 44 = .ok (.aload_n 2, 1) := by decide +kernel
theorem dX2_isLawOfAllSaid_45 : decode cX2_isLawOfAllSaid 45 = .ok (.aload_n 0, 1) := by decide +kernel
theorem dX2_isLawOfAllSaid_46 : decode cX2_isLawOfAllSaid 46 = .ok (.getfield 15, 3) := by decide +kernel
theorem dX2_isLawOfAllSaid_49 : decode cX2_isLawOfAllSaid 49 = .ok (.getfield 19, 3) := by decide +kernel
theorem dX2_isLawOfAllSaid_52 : decode cX2_isLawOfAllSaid 52 = .ok (.aload_n 3, 1) := by decide +kernel
theorem dX2_isLawOfAllSaid_53 : decode cX2_isLawOfAllSaid 53 = .ok (.iload 4, 2) := by decide +kernel
theorem dX2_isLawOfAllSaid_55 : decode cX2_isLawOfAllSaid 55 = .ok (.iaload, 1) := by decide +kernel
theorem dX2_isLawOfAllSaid_56 : decode cX2_isLawOfAllSaid 56 = .ok (.aload_n 3, 1) := by decide +kernel
theorem dX2_isLawOfAllSaid_57 : decode cX2_isLawOfAllSaid 57 = .ok (.iload 4, 2) := by decide +kernel
theorem dX2_isLawOfAllSaid_59 : decode cX2_isLawOfAllSaid 59 = .ok (.iconst 1, 1) := by decide +kernel
theorem dX2_isLawOfAllSaid_60 : decode cX2_isLawOfAllSaid 60 = .ok (.iadd, 1) := by decide +kernel
theorem dX2_isLawOfAllSaid_61 : decode cX2_isLawOfAllSaid 61 = .ok (.iaload, 1) := by decide +kernel
theorem dX2_isLawOfAllSaid_62 : decode cX2_isLawOfAllSaid 62 = .ok (.iconst 1, 1) := by decide +kernel
theorem dX2_isLawOfAllSaid_63 : decode cX2_isLawOfAllSaid 63 = .ok (.invokevirtual 40, 3) := by decide +kernel
theorem dX2_isLawOfAllSaid_66 : decode cX2_isLawOfAllSaid 66 = .ok (.aload_n 3, 1) := by decide +kernel
theorem dX2_isLawOfAllSaid_67 : decode cX2_isLawOfAllSaid 67 = .ok (.iload 4, 2) := by decide +kernel
theorem dX2_isLawOfAllSaid_69 : decode cX2_isLawOfAllSaid 69 = .ok (.iconst 2, 1) := by decide +kernel
theorem dX2_isLawOfAllSaid_70 : decode cX2_isLawOfAllSaid 70 = .ok (.iadd, 1) := by decide +kernel
theorem dX2_isLawOfAllSaid_71 : decode cX2_isLawOfAllSaid 71 = .ok (.iaload, 1) := by decide +kernel
theorem dX2_isLawOfAllSaid_72 : decode cX2_isLawOfAllSaid 72 = .ok (.if_icmp .eq 5, 3) := by decide +kernel
theorem dX2_isLawOfAllSaid_75 : decode cX2_isLawOfAllSaid 75 = .ok (.iconst 0, 1) := by decide +kernel
theorem dX2_isLawOfAllSaid_76 : decode cX2_isLawOfAllSaid 76 = .ok (.ireturn, 1) := by decide +kernel
theorem dX2_isLawOfAllSaid_77 : decode cX2_isLawOfAllSaid 77 = .ok (.iinc 4 3, 3) := by decide +kernel
theorem dX2_isLawOfAllSaid_80 : decode cX2_isLawOfAllSaid 80 = .ok (.goto (-60), 3) := by decide +kernel
theorem dX2_isLawOfAllSaid_83 : decode cX2_isLawOfAllSaid 83 = .ok (.iconst 1, 1) := by decide +kernel
theorem dX2_isLawOfAllSaid_84 : decode cX2_isLawOfAllSaid 84 = .ok (.ireturn, 1) := by decide +kernel
theorem dX2_result_0 : decode cX2_result 0 = .ok (.iconst 0, 1) := by decide +kernel
theorem dX2_result_1 : decode cX2_result 1 = .ok (.istore_n 2, 1) := by decide +kernel
theorem dX2_result_2 : decode cX2_result 2 = .ok (.iconst 0, 1) := by decide +kernel
theorem dX2_result_3 : decode cX2_result 3 = .ok (.istore_n 3, 1) := by decide +kernel
theorem dX2_result_4 : decode cX2_result 4 = .ok (.iload_n 3, 1) := by decide +kernel
theorem dX2_result_5 : decode cX2_result 5 = .ok (.aload_n 1, 1) := by decide +kernel
theorem dX2_result_6 : decode cX2_result 6 = .ok (.arraylength, 1) := by decide +kernel
theorem dX2_result_7 : decode cX2_result 7 = .ok (.if_icmp .ge 247, 3) := by decide +kernel
theorem dX2_result_10 : decode cX2_result 10 = .ok (.aload_n 1, 1) := by decide +kernel
theorem dX2_result_11 : decode cX2_result 11 = .ok (.iload_n 3, 1) := by decide +kernel
theorem dX2_result_12 : decode cX2_result 12 = .ok (.iaload, 1) := by decide +kernel
theorem dX2_result_13 : decode cX2_result 13 = .ok (.bipush 64, 2) := by decide +kernel
theorem dX2_result_15 : decode cX2_result 15 = .ok (.irem, 1) := by decide +kernel
theorem dX2_result_16 : decode cX2_result 16 = .ok (.istore 4, 2) := by decide +kernel
theorem dX2_result_18 : decode cX2_result 18 = .ok (.aload_n 1, 1) := by decide +kernel
theorem dX2_result_19 : decode cX2_result 19 = .ok (.iload_n 3, 1) := by decide +kernel
theorem dX2_result_20 : decode cX2_result 20 = .ok (.iaload, 1) := by decide +kernel
theorem dX2_result_21 : decode cX2_result 21 = .ok (.bipush 64, 2) := by decide +kernel
theorem dX2_result_23 : decode cX2_result 23 = .ok (.idiv, 1) := by decide +kernel
theorem dX2_result_24 : decode cX2_result 24 = .ok (.istore 5, 2) := by decide +kernel
theorem dX2_result_26 : decode cX2_result 26 = .ok (.iload 4, 2) := by decide +kernel
theorem dX2_result_28 : decode cX2_result 28 = .ok (.bipush 44, 2) := by decide +kernel
theorem dX2_result_30 : decode cX2_result 30 = .ok (.if_icmp .ne 15, 3) := by decide +kernel
theorem dX2_result_33 : decode cX2_result 33 = .ok (.iload_n 3, 1) := by decide +kernel
theorem dX2_result_34 : decode cX2_result 34 = .ok (.iload 5, 2) := by decide +kernel
theorem dX2_result_36 : decode cX2_result 36 = .ok (.iconst 1, 1) := by decide +kernel
theorem dX2_result_37 : decode cX2_result 37 = .ok (.isub, 1) := by decide +kernel
theorem dX2_result_38 : decode cX2_result 38 = .ok (.invokestatic 126, 3) := by decide +kernel
theorem dX2_result_41 : decode cX2_result 41 = .ok (.istore_n 3, 1) := by decide +kernel
theorem dX2_result_42 : decode cX2_result 42 = .ok (.goto 206, 3) := by decide +kernel
theorem dX2_result_45 : decode cX2_result 45 = .ok (.iload 4, 2) := by decide +kernel
theorem dX2_result_47 : decode cX2_result 47 = .ok (.bipush 43, 2) := by decide +kernel
theorem dX2_result_49 : decode cX2_result 49 = .ok (.if_icmp .ne 38, 3) := by decide +kernel
theorem dX2_result_52 : decode cX2_result 52 = .ok (.iconst 0, 1) := by decide +kernel
theorem dX2_result_53 : decode cX2_result 53 = .ok (.iload_n 2, 1) := by decide +kernel
theorem dX2_result_54 : decode cX2_result 54 = .ok (.iconst 1, 1) := by decide +kernel
theorem dX2_result_55 : decode cX2_result 55 = .ok (.isub, 1) := by decide +kernel
theorem dX2_result_56 : decode cX2_result 56 = .ok (.invokestatic 126, 3) := by decide +kernel
theorem dX2_result_59 : decode cX2_result 59 = .ok (.istore_n 2, 1) := by decide +kernel
theorem dX2_result_60 : decode cX2_result 60 = .ok (.aload_n 0, 1) := by decide +kernel
theorem dX2_result_61 : decode cX2_result 61 = .ok (.getfield 9, 3) := by decide +kernel
theorem dX2_result_64 : decode cX2_result 64 = .ok (.iload_n 2, 1) := by decide +kernel
theorem dX2_result_65 : decode cX2_result 65 = .ok (.laload, 1) := by decide +kernel
theorem dX2_result_66 : decode cX2_result 66 = .ok (.lconst 0, 1) := by decide +kernel
theorem dX2_result_67 : decode cX2_result 67 = .ok (.lcmp, 1) := by decide +kernel
theorem dX2_result_68 : decode cX2_result 68 = .ok (.ifCond .ne 14, 3) := by decide +kernel
theorem dX2_result_71 : decode cX2_result 71 = .ok (.iload_n 3, 1) := by decide +kernel
theorem dX2_result_72 : decode cX2_result 72 = .ok (.iload 5, 2) := by decide +kernel
theorem dX2_result_74 : decode cX2_result 74 = .ok (.iconst 1, 1) := by decide +kernel
theorem dX2_result_75 : decode cX2_result 75 = .ok (.isub, 1) := by decide +kernel
theorem dX2_result_76 : decode cX2_result 76 = .ok (.invokestatic 126, 3) := by decide +kernel
theorem dX2_result_79 : decode cX2_result 79 = .ok (.goto 4, 3) := by decide +kernel
theorem dX2_result_82 : decode cX2_result 82 = .ok (.iload_n 3, 1) := by decide +kernel
theorem dX2_result_83 : decode cX2_result 83 = .ok (.istore_n 3, 1) := by decide +kernel
theorem dX2_result_84 : decode cX2_result 84 = .ok (.goto 164, 3) := by decide +kernel
theorem dX2_result_87 : decode cX2_result 87 = .ok (.iload 4, 2) := by decide +kernel
theorem dX2_result_89 : decode cX2_result 89 = .ok (.bipush 24, 2) := by decide +kernel
theorem dX2_result_91 : decode cX2_result 91 = .ok (.if_icmp .lt 65, 3) := by decide +kernel
theorem dX2_result_94 : decode cX2_result 94 = .ok (.iload 4, 2) := by decide +kernel
theorem dX2_result_96 : decode cX2_result 96 = .ok (.bipush 35, 2) := by decide +kernel
theorem dX2_result_98 : decode cX2_result 98 = .ok (.if_icmp .gt 58, 3) := by decide +kernel
theorem dX2_result_101 : decode cX2_result 101 = .ok (.iconst 0, 1) := by decide +kernel
theorem dX2_result_102 : decode cX2_result 102 = .ok (.iload_n 2, 1) := by decide +kernel
theorem dX2_result_103 : decode cX2_result 103 = .ok (.iconst 2, 1) := by decide +kernel
theorem dX2_result_104 : decode cX2_result 104 = .ok (.isub, 1) := by decide +kernel
theorem dX2_result_105 : decode cX2_result 105 = .ok (.invokestatic 126, 3) := by decide +kernel
theorem dX2_result_108 : decode cX2_result 108 = .ok (.istore_n 2, 1) := by decide +kernel
theorem dX2_result_109 : decode cX2_result 109 = .ok (.iload 4, 2) := by decide +kernel
theorem dX2_result_111 : decode cX2_result 111 = .ok (.aload_n 0, 1) := by decide +kernel
theorem dX2_result_112 : decode cX2_result 112 = .ok (.getfield 9, 3) := by decide +kernel
theorem dX2_result_115 : decode cX2_result 115 = .ok (.iload_n 2, 1) := by decide +kernel
theorem dX2_result_116 : decode cX2_result 116 = .ok (.laload, 1) := by decide +kernel
theorem dX2_result_117 : decode cX2_result 117 = .ok (.aload_n 0, 1) := by decide +kernel
theorem dX2_result_118 : decode cX2_result 118 = .ok (.getfield 9, 3) := by decide +kernel
theorem dX2_result_121 : decode cX2_result 121 = .ok (.iload_n 2, 1) := by decide +kernel
theorem dX2_result_122 : decode cX2_result 122 = .ok (.iconst 1, 1) := by decide +kernel
theorem dX2_result_123 : decode cX2_result 123 = .ok (.iadd, 1) := by decide +kernel
theorem dX2_result_124 : decode cX2_result 124 = .ok (.laload, 1) := by decide +kernel
theorem dX2_result_125 : decode cX2_result 125 = .ok (.invokestatic 129, 3) := by decide +kernel
theorem dX2_result_128 : decode cX2_result 128 = .ok (.lstore 6, 2) := by decide +kernel
theorem dX2_result_130 : decode cX2_result 130 = .ok (.aload_n 0, 1) := by decide +kernel
theorem dX2_result_131 : decode cX2_result 131 = .ok (.getfield 9, 3) := by decide +kernel
theorem dX2_result_134 : decode cX2_result 134 = .ok (.iload_n 2, 1) := by decide +kernel
theorem dX2_result_135 : decode cX2_result 135 = .ok (.ldc2_w 133, 3) := by decide +kernel
theorem dX2_result_138 : decode cX2_result 138 = .ok (.ldc2_w 135, 3) := by decide +kernel
theorem dX2_result_141 : decode cX2_result 141 = .ok (.lload 6, 2) := by decide +kernel
theorem dX2_result_143 : decode cX2_result 143 = .ok (.invokestatic 76, 3) := by decide +kernel
theorem dX2_result_146 : decode cX2_result 146 = .ok (.invokestatic 82, 3) := by decide +kernel
theorem dX2_result_149 : decode cX2_result 149 = .ok (.lastore, 1) := by decide +kernel
theorem dX2_result_150 : decode cX2_result 150 = .ok (.iinc 2 1, 3) := by decide +kernel
theorem dX2_result_153 : decode cX2_result 153 = .ok (.goto 95, 3) := by decide +kernel
theorem dX2_result_156 : decode cX2_result 156 = .ok (.iload 4, 2) := by decide +kernel
theorem dX2_result_158 : decode cX2_result 158 = .ok (.bipush 21, 2) := by decide +kernel
theorem dX2_result_160 : decode cX2_result 160 = .ok (.if_icmp .lt 10, 3) := by decide +kernel
theorem dX2_result_163 : decode cX2_result 163 = .ok (.iload 4, 2) := by decide +kernel
theorem dX2_result_165 : decode cX2_result 165 = .ok (.bipush 23, 2) := by decide +kernel
theorem dX2_result_167 : decode cX2_result 167 = .ok (.if_icmp .le 10, 3) := by decide +kernel
theorem dX2_result_170 : decode cX2_result 170 = .ok (.iload 4, 2) := by decide +kernel
theorem dX2_result_172 : decode cX2_result 172 = .ok (.bipush 42, 2) := by decide +kernel
theorem dX2_result_174 : decode cX2_result 174 = .ok (.if_icmp .ne 35, 3) := by decide +kernel
theorem dX2_result_177 : decode cX2_result 177 = .ok (.iconst 0, 1) := by decide +kernel
theorem dX2_result_178 : decode cX2_result 178 = .ok (.iload_n 2, 1) := by decide +kernel
theorem dX2_result_179 : decode cX2_result 179 = .ok (.iconst 1, 1) := by decide +kernel
theorem dX2_result_180 : decode cX2_result 180 = .ok (.isub, 1) := by decide +kernel
theorem dX2_result_181 : decode cX2_result 181 = .ok (.invokestatic 126, 3) := by decide +kernel
theorem dX2_result_184 : decode cX2_result 184 = .ok (.istore 6, 2) := by decide +kernel
theorem dX2_result_186 : decode cX2_result 186 = .ok (.aload_n 0, 1) := by decide +kernel
theorem dX2_result_187 : decode cX2_result 187 = .ok (.getfield 9, 3) := by decide +kernel
theorem dX2_result_190 : decode cX2_result 190 = .ok (.iload 6, 2) := by decide +kernel
theorem dX2_result_192 : decode cX2_result 192 = .ok (.aload_n 0, 1) := by decide +kernel
theorem dX2_result_193 : decode cX2_result 193 = .ok (.iload 4, 2) := by decide +kernel
theorem dX2_result_195 : decode cX2_result 195 = .ok (.aload_n 0, 1) := by decide +kernel
theorem dX2_result_196 : decode cX2_result 196 = .ok (.getfield 9, 3) := by decide +kernel
theorem dX2_result_199 : decode cX2_result 199 = .ok (.iload 6, 2) := by decide +kernel
theorem dX2_result_201 : decode cX2_result 201 = .ok (.laload, 1) := by decide +kernel
theorem dX2_result_202 : decode cX2_result 202 = .ok (.invokevirtual 137, 3) := by decide +kernel
theorem dX2_result_205 : decode cX2_result 205 = .ok (.lastore, 1) := by decide +kernel
theorem dX2_result_206 : decode cX2_result 206 = .ok (.goto 42, 3) := by decide +kernel
theorem dX2_result_209 : decode cX2_result 209 = .ok (.iload_n 2, 1) := by decide +kernel
theorem dX2_result_210 : decode cX2_result 210 = .ok (.aload_n 0, 1) := by decide +kernel
theorem dX2_result_211 : decode cX2_result 211 = .ok (.getfield 9, 3) := by decide +kernel
theorem dX2_result_214 : decode cX2_result 214 = .ok (.arraylength, 1) := by decide +kernel
theorem dX2_result_215 : decode cX2_result 215 = .ok (.iconst 1, 1) := by decide +kernel
theorem dX2_result_216 : decode cX2_result 216 = .ok (.isub, 1) := by decide +kernel
theorem dX2_result_217 : decode cX2_result 217 = .ok (.if_icmp .ge 31, 3) := by decide +kernel
theorem dX2_result_220 : decode cX2_result 220 = .ok (.aload_n 0, 1) := by decide +kernel
theorem dX2_result_221 : decode cX2_result 221 = .ok (.getfield 9, 3) := by decide +kernel
theorem dX2_result_224 : decode cX2_result 224 = .ok (.iload_n 2, 1) := by decide +kernel
theorem dX2_result_225 : decode cX2_result 225 = .ok (.iload 4, 2) := by decide +kernel
theorem dX2_result_227 : decode cX2_result 227 = .ok (.bipush 39, 2) := by decide +kernel
theorem dX2_result_229 : decode cX2_result 229 = .ok (.if_icmp .ne 9, 3) := by decide +kernel
theorem dX2_result_232 : decode cX2_result 232 = .ok (.iload 5, 2) := by decide +kernel
theorem dX2_result_234 : decode cX2_result 234 = .ok (.i2l, 1) := by decide +kernel
theorem dX2_result_235 : decode cX2_result 235 = .ok (.goto 9, 3) := by decide +kernel
theorem dX2_result_238 : decode cX2_result 238 = .ok (.aload_n 0, 1) := by decide +kernel
theorem dX2_result_239 : decode cX2_result 239 = .ok (.iload 4, 2) := by decide +kernel
theorem dX2_result_241 : decode cX2_result 241 = .ok (.invokevirtual 141, 3) := by decide +kernel
theorem dX2_result_244 : decode cX2_result 244 = .ok (.lastore, 1) := by decide +kernel
theorem dX2_result_245 : decode cX2_result 245 = .ok (.iinc 2 1, 3) := by decide +kernel
theorem dX2_result_248 : decode cX2_result 248 = .ok (.iinc 3 1, 3) := by decide +kernel
theorem dX2_result_251 : decode cX2_result 251 = .ok (.goto (-247), 3) := by decide +kernel
theorem dX2_result_254 : decode cX2_result 254 = .ok (.aload_n 0, 1) := by decide +kernel
theorem dX2_result_255 : decode cX2_result 255 = .ok (.getfield 9, 3) := by decide +kernel
theorem dX2_result_258 : decode cX2_result 258 = .ok (.iconst 0, 1) := by decide +kernel
theorem dX2_result_259 : decode cX2_result 259 = .ok (.laload, 1) := by decide +kernel
theorem dX2_result_260 : decode cX2_result 260 = .ok (.lreturn, 1) := by decide +kernel
theorem dX2_named_0 : decode cX2_named 0 = .ok (.aload_n 0, 1) := by decide +kernel
theorem dX2_named_1 : decode cX2_named 1 = .ok (.getfield 68, 3) := by decide +kernel
theorem dX2_named_4 : decode cX2_named 4 = .ok (.ifCond .eq 12, 3) := by decide +kernel
theorem dX2_named_7 : decode cX2_named 7 = .ok (.aload_n 0, 1) := by decide +kernel
theorem dX2_named_8 : decode cX2_named 8 = .ok (.getfield 65, 3) := by decide +kernel
theorem dX2_named_11 : decode cX2_named 11 = .ok (.iconst 1, 1) := by decide +kernel
theorem dX2_named_12 : decode cX2_named 12 = .ok (.iadd, 1) := by decide +kernel
theorem dX2_named_13 : decode cX2_named 13 = .ok (.goto 9, 3) := by decide +kernel
theorem dX2_named_16 : decode cX2_named 16 = .ok (.aload_n 0, 1) := by decide +kernel
theorem dX2_named_17 : decode cX2_named 17 = .ok (.getfield 65, 3) := by decide +kernel
theorem dX2_named_20 : decode cX2_named 20 = .ok (.iconst 1, 1) := by decide +kernel
theorem dX2_named_21 : decode cX2_named 21 = .ok (.isub, 1) := by decide +kernel
theorem dX2_named_22 : decode cX2_named 22 = .ok (.istore_n 2, 1) := by decide +kernel
theorem dX2_named_23 : decode cX2_named 23 = .ok (.iload_n 2, 1) := by decide +kernel
theorem dX2_named_24 : decode cX2_named 24 = .ok (.ifCond .lt 9, 3) := by decide +kernel
theorem dX2_named_27 : decode cX2_named 27 = .ok (.iload_n 2, 1) := by decide +kernel
theorem dX2_named_28 : decode cX2_named 28 = .ok (.bipush 12, 2) := by decide +kernel
theorem dX2_named_30 : decode cX2_named 30 = .ok (.if_icmp .lt 7, 3) := by decide +kernel
theorem dX2_named_33 : decode cX2_named 33 = .ok (.iconst 1, 1) := by decide +kernel
theorem dX2_named_34 : decode cX2_named 34 = .ok (.goto 4, 3) := by decide +kernel
theorem dX2_named_37 : decode cX2_named 37 = .ok (.iconst 0, 1) := by decide +kernel
theorem dX2_named_38 : decode cX2_named 38 = .ok (.istore_n 3, 1) := by decide +kernel
theorem dX2_named_39 : decode cX2_named 39 = .ok (.iload_n 1, 1) := by decide +kernel
theorem dX2_named_40 : decode cX2_named 40 = .ok (.tableswitch 192 3 20 #[103, 192, 192, 179, 192, 192, 88, 192, 192, 192, 192, 192, 192, 97, 117, 133, 147, 153], 88) := by decide +kernel
theorem dX2_named_128 : decode cX2_named 128 = .ok (.aload_n 0, 1) := by decide +kernel
theorem dX2_named_129 : decode cX2_named 129 = .ok (.getfield 25, 3) := by decide +kernel
theorem dX2_named_132 : decode cX2_named 132 = .ok (.getfield 97, 3) := by decide +kernel
theorem dX2_named_135 : decode cX2_named 135 = .ok (.i2l, 1) := by decide +kernel
theorem dX2_named_136 : decode cX2_named 136 = .ok (.lreturn, 1) := by decide +kernel
theorem dX2_named_137 : decode cX2_named 137 = .ok (.aload_n 0, 1) := by decide +kernel
theorem dX2_named_138 : decode cX2_named 138 = .ok (.getfield 65, 3) := by decide +kernel
theorem dX2_named_141 : decode cX2_named 141 = .ok (.i2l, 1) := by decide +kernel
theorem dX2_named_142 : decode cX2_named 142 = .ok (.lreturn, 1) := by decide +kernel
theorem dX2_named_143 : decode cX2_named 143 = .ok (.aload_n 0, 1) := by decide +kernel
theorem dX2_named_144 : decode cX2_named 144 = .ok (.getfield 25, 3) := by decide +kernel
theorem dX2_named_147 : decode cX2_named 147 = .ok (.getfield 26, 3) := by decide +kernel
theorem dX2_named_150 : decode cX2_named 150 = .ok (.aload_n 0, 1) := by decide +kernel
theorem dX2_named_151 : decode cX2_named 151 = .ok (.getfield 65, 3) := by decide +kernel
theorem dX2_named_154 : decode cX2_named 154 = .ok (.iaload, 1) := by decide +kernel
theorem dX2_named_155 : decode cX2_named 155 = .ok (.i2l, 1) := by decide +kernel
theorem dX2_named_156 : decode cX2_named 156 = .ok (.lreturn, 1) := by decide +kernel
theorem dX2_named_157 : decode cX2_named 157 = .ok (.aload_n 0, 1) := by decide +kernel
theorem dX2_named_158 : decode cX2_named 158 = .ok (.getfield 25, 3) := by decide +kernel
theorem dX2_named_161 : decode cX2_named 161 = .ok (.getfield 55, 3) := by decide +kernel
theorem dX2_named_164 : decode cX2_named 164 = .ok (.aload_n 0, 1) := by decide +kernel
theorem dX2_named_165 : decode cX2_named 165 = .ok (.getfield 65, 3) := by decide +kernel
theorem dX2_named_168 : decode cX2_named 168 = .ok (.ishr, 1) := by decide +kernel
theorem dX2_named_169 : decode cX2_named 169 = .ok (.iconst 1, 1) := by decide +kernel
theorem dX2_named_170 : decode cX2_named 170 = .ok (.iand, 1) := by decide +kernel
theorem dX2_named_171 : decode cX2_named 171 = .ok (.i2l, 1) := by decide +kernel
theorem dX2_named_172 : decode cX2_named 172 = .ok (.lreturn, 1) := by decide +kernel
theorem dX2_named_173 : decode cX2_named 173 = .ok (.aload_n 0, 1) := by decide +kernel
theorem dX2_named_174 : decode cX2_named 174 = .ok (.getfield 15, 3) := by decide +kernel
theorem dX2_named_177 : decode cX2_named 177 = .ok (.getfield 145, 3) := by decide +kernel
theorem dX2_named_180 : decode cX2_named 180 = .ok (.aload_n 0, 1) := by decide +kernel
theorem dX2_named_181 : decode cX2_named 181 = .ok (.getfield 62, 3) := by decide +kernel
theorem dX2_named_184 : decode cX2_named 184 = .ok (.iaload, 1) := by decide +kernel
theorem dX2_named_185 : decode cX2_named 185 = .ok (.i2l, 1) := by decide +kernel
theorem dX2_named_186 : decode cX2_named 186 = .ok (.lreturn, 1) := by decide +kernel
theorem dX2_named_187 : decode cX2_named 187 = .ok (.aload_n 0, 1) := by decide +kernel
theorem dX2_named_188 : decode cX2_named 188 = .ok (.getfield 62, 3) := by decide +kernel
theorem dX2_named_191 : decode cX2_named 191 = .ok (.i2l, 1) := by decide +kernel
theorem dX2_named_192 : decode cX2_named 192 = .ok (.lreturn, 1) := by decide +kernel
theorem dX2_named_193 : decode cX2_named 193 = .ok (.iload_n 3, 1) := by decide +kernel
theorem dX2_named_194 : decode cX2_named 194 = .ok (.ifCond .eq 14, 3) := by decide +kernel
theorem dX2_named_197 : decode cX2_named 197 = .ok (.aload_n 0, 1) := by decide +kernel
theorem dX2_named_198 : decode cX2_named 198 = .ok (.getfield 25, 3) := by decide +kernel
theorem dX2_named_201 : decode cX2_named 201 = .ok (.getfield 44, 3) := by decide +kernel
theorem dX2_named_204 : decode cX2_named 204 = .ok (.i2l, 1) := by decide +kernel
theorem dX2_named_205 : decode cX2_named 205 = .ok (.goto 13, 3) := by decide +kernel
theorem dX2_named_208 : decode cX2_named 208 = .ok (.aload_n 0, 1) := by decide +kernel
theorem dX2_named_209 : decode cX2_named 209 = .ok (.getfield 25, 3) := by decide +kernel
theorem dX2_named_212 : decode cX2_named 212 = .ok (.getfield 26, 3) := by decide +kernel
theorem dX2_named_215 : decode cX2_named 215 = .ok (.iload_n 2, 1) := by decide +kernel
theorem dX2_named_216 : decode cX2_named 216 = .ok (.iaload, 1) := by decide +kernel
theorem dX2_named_217 : decode cX2_named 217 = .ok (.i2l, 1) := by decide +kernel
theorem dX2_named_218 : decode cX2_named 218 = .ok (.lreturn, 1) := by decide +kernel
theorem dX2_named_219 : decode cX2_named 219 = .ok (.aload_n 0, 1) := by decide +kernel
theorem dX2_named_220 : decode cX2_named 220 = .ok (.getfield 68, 3) := by decide +kernel
theorem dX2_named_223 : decode cX2_named 223 = .ok (.ifCond .eq 7, 3) := by decide +kernel
theorem dX2_named_226 : decode cX2_named 226 = .ok (.lconst 1, 1) := by decide +kernel
theorem dX2_named_227 : decode cX2_named 227 = .ok (.goto 4, 3) := by decide +kernel
theorem dX2_named_230 : decode cX2_named 230 = .ok (.lconst 0, 1) := by decide +kernel
theorem dX2_named_231 : decode cX2_named 231 = .ok (.lreturn, 1) := by decide +kernel
theorem dX2_named_232 : decode cX2_named 232 = .ok (.lconst 0, 1) := by decide +kernel
theorem dX2_named_233 : decode cX2_named 233 = .ok (.lreturn, 1) := by decide +kernel
theorem dX2_changed_0 : decode cX2_changed 0 = .ok (.iload_n 1, 1) := by decide +kernel
theorem dX2_changed_1 : decode cX2_changed 1 = .ok (.lookupswitch 70 #[(21, 35), (22, 50), (42, 47)], 35) := by decide +kernel
theorem dX2_changed_36 : decode cX2_changed 36 = .ok (.lload_n 2, 1) := by decide +kernel
theorem dX2_changed_37 : decode cX2_changed 37 = .ok (.lconst 0, 1) := by decide +kernel
theorem dX2_changed_38 : decode cX2_changed 38 = .ok (.lcmp, 1) := by decide +kernel
theorem dX2_changed_39 : decode cX2_changed 39 = .ok (.ifCond .ne 7, 3) := by decide +kernel
theorem dX2_changed_42 : decode cX2_changed 42 = .ok (.lconst 1, 1) := by decide +kernel
theorem dX2_changed_43 : decode cX2_changed 43 = .ok (.goto 4, 3) := by decide +kernel
theorem dX2_changed_46 : decode cX2_changed 46 = .ok (.lconst 0, 1) := by decide +kernel
theorem dX2_changed_47 : decode cX2_changed 47 = .ok (.lreturn, 1) := by decide +kernel
theorem dX2_changed_48 : decode cX2_changed 48 = .ok (.lload_n 2, 1) := by decide +kernel
theorem dX2_changed_49 : decode cX2_changed 49 = .ok (.lneg, 1) := by decide +kernel
theorem dX2_changed_50 : decode cX2_changed 50 = .ok (.lreturn, 1) := by decide +kernel
theorem dX2_changed_51 : decode cX2_changed 51 = .ok (.lload_n 2, 1) := by decide +kernel
theorem dX2_changed_52 : decode cX2_changed 52 = .ok (.lload_n 2, 1) := by decide +kernel
theorem dX2_changed_53 : decode cX2_changed 53 = .ok (.lmul, 1) := by decide +kernel
theorem dX2_changed_54 : decode cX2_changed 54 = .ok (.ldc2_w 135, 3) := by decide +kernel
theorem dX2_changed_57 : decode cX2_changed 57 = .ok (.lcmp, 1) := by decide +kernel
theorem dX2_changed_58 : decode cX2_changed 58 = .ok (.ifCond .le 9, 3) := by decide +kernel
theorem dX2_changed_61 : decode cX2_changed 61 = .ok (.ldc2_w 135, 3) := by decide +kernel
theorem dX2_changed_64 : decode cX2_changed 64 = .ok (.goto 6, 3) := by decide +kernel
theorem dX2_changed_67 : decode cX2_changed 67 = .ok (.lload_n 2, 1) := by decide +kernel
theorem dX2_changed_68 : decode cX2_changed 68 = .ok (.lload_n 2, 1) := by decide +kernel
theorem dX2_changed_69 : decode cX2_changed 69 = .ok (.lmul, 1) := by decide +kernel
theorem dX2_changed_70 : decode cX2_changed 70 = .ok (.lreturn, 1) := by decide +kernel
theorem dX2_changed_71 : decode cX2_changed 71 = .ok (.lload_n 2, 1) := by decide +kernel
theorem dX2_changed_72 : decode cX2_changed 72 = .ok (.lconst 0, 1) := by decide +kernel
theorem dX2_changed_73 : decode cX2_changed 73 = .ok (.lcmp, 1) := by decide +kernel
theorem dX2_changed_74 : decode cX2_changed 74 = .ok (.ifCond .lt 11, 3) := by decide +kernel
theorem dX2_changed_77 : decode cX2_changed 77 = .ok (.lload_n 2, 1) := by decide +kernel
theorem dX2_changed_78 : decode cX2_changed 78 = .ok (.ldc2_w 148, 3) := by decide +kernel
theorem dX2_changed_81 : decode cX2_changed 81 = .ok (.lcmp, 1) := by decide +kernel
theorem dX2_changed_82 : decode cX2_changed 82 = .ok (.ifCond .lt 7, 3) := by decide +kernel
theorem dX2_changed_85 : decode cX2_changed 85 = .ok (.lconst 0, 1) := by decide +kernel
theorem dX2_changed_86 : decode cX2_changed 86 = .ok (.goto 14, 3) := by decide +kernel
theorem dX2_changed_89 : decode cX2_changed 89 = .ok (.aload_n 0, 1) := by decide +kernel
theorem dX2_changed_90 : decode cX2_changed 90 = .ok (.getfield 25, 3) := by decide +kernel
theorem dX2_changed_93 : decode cX2_changed 93 = .ok (.getfield 26, 3) := by decide +kernel
theorem dX2_changed_96 : decode cX2_changed 96 = .ok (.lload_n 2, 1) := by decide +kernel
theorem dX2_changed_97 : decode cX2_changed 97 = .ok (.l2i, 1) := by decide +kernel
theorem dX2_changed_98 : decode cX2_changed 98 = .ok (.iaload, 1) := by decide +kernel
theorem dX2_changed_99 : decode cX2_changed 99 = .ok (.i2l, 1) := by decide +kernel
theorem dX2_changed_100 : decode cX2_changed 100 = .ok (.lreturn, 1) := by decide +kernel
theorem dX2_joined_0 : decode cX2_joined 0 = .ok (.iload_n 0, 1) := by decide +kernel
theorem dX2_joined_1 : decode cX2_joined 1 = .ok (.tableswitch 151 24 34 #[59, 63, 67, 79, 91, 103, 115, 127, 139, 143, 147], 59) := by decide +kernel
theorem dX2_joined_60 : decode cX2_joined 60 = .ok (.lload_n 1, 1) := by decide +kernel
theorem dX2_joined_61 : decode cX2_joined 61 = .ok (.lload_n 3, 1) := by decide +kernel
theorem dX2_joined_62 : decode cX2_joined 62 = .ok (.lor, 1) := by decide +kernel
theorem dX2_joined_63 : decode cX2_joined 63 = .ok (.lreturn, 1) := by decide +kernel
theorem dX2_joined_64 : decode cX2_joined 64 = .ok (.lload_n 1, 1) := by decide +kernel
theorem dX2_joined_65 : decode cX2_joined 65 = .ok (.lload_n 3, 1) := by decide +kernel
theorem dX2_joined_66 : decode cX2_joined 66 = .ok (.land, 1) := by decide +kernel
theorem dX2_joined_67 : decode cX2_joined 67 = .ok (.lreturn, 1) := by decide +kernel
theorem dX2_joined_68 : decode cX2_joined 68 = .ok (.lload_n 1, 1) := by decide +kernel
theorem dX2_joined_69 : decode cX2_joined 69 = .ok (.lload_n 3, 1) := by decide +kernel
theorem dX2_joined_70 : decode cX2_joined 70 = .ok (.lcmp, 1) := by decide +kernel
theorem dX2_joined_71 : decode cX2_joined 71 = .ok (.ifCond .gt 7, 3) := by decide +kernel
theorem dX2_joined_74 : decode cX2_joined 74 = .ok (.lconst 1, 1) := by decide +kernel
theorem dX2_joined_75 : decode cX2_joined 75 = .ok (.goto 4, 3) := by decide +kernel
theorem dX2_joined_78 : decode cX2_joined 78 = .ok (.lconst 0, 1) := by decide +kernel
theorem dX2_joined_79 : decode cX2_joined 79 = .ok (.lreturn, 1) := by decide +kernel
theorem dX2_joined_80 : decode cX2_joined 80 = .ok (.lload_n 1, 1) := by decide +kernel
theorem dX2_joined_81 : decode cX2_joined 81 = .ok (.lload_n 3, 1) := by decide +kernel
theorem dX2_joined_82 : decode cX2_joined 82 = .ok (.lcmp, 1) := by decide +kernel
theorem dX2_joined_83 : decode cX2_joined 83 = .ok (.ifCond .lt 7, 3) := by decide +kernel
theorem dX2_joined_86 : decode cX2_joined 86 = .ok (.lconst 1, 1) := by decide +kernel
theorem dX2_joined_87 : decode cX2_joined 87 = .ok (.goto 4, 3) := by decide +kernel
theorem dX2_joined_90 : decode cX2_joined 90 = .ok (.lconst 0, 1) := by decide +kernel
theorem dX2_joined_91 : decode cX2_joined 91 = .ok (.lreturn, 1) := by decide +kernel
theorem dX2_joined_92 : decode cX2_joined 92 = .ok (.lload_n 1, 1) := by decide +kernel
theorem dX2_joined_93 : decode cX2_joined 93 = .ok (.lload_n 3, 1) := by decide +kernel
theorem dX2_joined_94 : decode cX2_joined 94 = .ok (.lcmp, 1) := by decide +kernel
theorem dX2_joined_95 : decode cX2_joined 95 = .ok (.ifCond .ge 7, 3) := by decide +kernel
theorem dX2_joined_98 : decode cX2_joined 98 = .ok (.lconst 1, 1) := by decide +kernel
theorem dX2_joined_99 : decode cX2_joined 99 = .ok (.goto 4, 3) := by decide +kernel
theorem dX2_joined_102 : decode cX2_joined 102 = .ok (.lconst 0, 1) := by decide +kernel
theorem dX2_joined_103 : decode cX2_joined 103 = .ok (.lreturn, 1) := by decide +kernel
theorem dX2_joined_104 : decode cX2_joined 104 = .ok (.lload_n 1, 1) := by decide +kernel
theorem dX2_joined_105 : decode cX2_joined 105 = .ok (.lload_n 3, 1) := by decide +kernel
theorem dX2_joined_106 : decode cX2_joined 106 = .ok (.lcmp, 1) := by decide +kernel
theorem dX2_joined_107 : decode cX2_joined 107 = .ok (.ifCond .le 7, 3) := by decide +kernel
theorem dX2_joined_110 : decode cX2_joined 110 = .ok (.lconst 1, 1) := by decide +kernel
theorem dX2_joined_111 : decode cX2_joined 111 = .ok (.goto 4, 3) := by decide +kernel
theorem dX2_joined_114 : decode cX2_joined 114 = .ok (.lconst 0, 1) := by decide +kernel
theorem dX2_joined_115 : decode cX2_joined 115 = .ok (.lreturn, 1) := by decide +kernel
theorem dX2_joined_116 : decode cX2_joined 116 = .ok (.lload_n 1, 1) := by decide +kernel
theorem dX2_joined_117 : decode cX2_joined 117 = .ok (.lload_n 3, 1) := by decide +kernel
theorem dX2_joined_118 : decode cX2_joined 118 = .ok (.lcmp, 1) := by decide +kernel
theorem dX2_joined_119 : decode cX2_joined 119 = .ok (.ifCond .ne 7, 3) := by decide +kernel
theorem dX2_joined_122 : decode cX2_joined 122 = .ok (.lconst 1, 1) := by decide +kernel
theorem dX2_joined_123 : decode cX2_joined 123 = .ok (.goto 4, 3) := by decide +kernel
theorem dX2_joined_126 : decode cX2_joined 126 = .ok (.lconst 0, 1) := by decide +kernel
theorem dX2_joined_127 : decode cX2_joined 127 = .ok (.lreturn, 1) := by decide +kernel
theorem dX2_joined_128 : decode cX2_joined 128 = .ok (.lload_n 1, 1) := by decide +kernel
theorem dX2_joined_129 : decode cX2_joined 129 = .ok (.lload_n 3, 1) := by decide +kernel
theorem dX2_joined_130 : decode cX2_joined 130 = .ok (.lcmp, 1) := by decide +kernel
theorem dX2_joined_131 : decode cX2_joined 131 = .ok (.ifCond .eq 7, 3) := by decide +kernel
theorem dX2_joined_134 : decode cX2_joined 134 = .ok (.lconst 1, 1) := by decide +kernel
theorem dX2_joined_135 : decode cX2_joined 135 = .ok (.goto 4, 3) := by decide +kernel
theorem dX2_joined_138 : decode cX2_joined 138 = .ok (.lconst 0, 1) := by decide +kernel
theorem dX2_joined_139 : decode cX2_joined 139 = .ok (.lreturn, 1) := by decide +kernel
theorem dX2_joined_140 : decode cX2_joined 140 = .ok (.lload_n 1, 1) := by decide +kernel
theorem dX2_joined_141 : decode cX2_joined 141 = .ok (.lload_n 3, 1) := by decide +kernel
theorem dX2_joined_142 : decode cX2_joined 142 = .ok (.ladd, 1) := by decide +kernel
theorem dX2_joined_143 : decode cX2_joined 143 = .ok (.lreturn, 1) := by decide +kernel
theorem dX2_joined_144 : decode cX2_joined 144 = .ok (.lload_n 1, 1) := by decide +kernel
theorem dX2_joined_145 : decode cX2_joined 145 = .ok (.lload_n 3, 1) := by decide +kernel
theorem dX2_joined_146 : decode cX2_joined 146 = .ok (.lsub, 1) := by decide +kernel
theorem dX2_joined_147 : decode cX2_joined 147 = .ok (.lreturn, 1) := by decide +kernel
theorem dX2_joined_148 : decode cX2_joined 148 = .ok (.lload_n 1, 1) := by decide +kernel
theorem dX2_joined_149 : decode cX2_joined 149 = .ok (.lload_n 3, 1) := by decide +kernel
theorem dX2_joined_150 : decode cX2_joined 150 = .ok (.lmul, 1) := by decide +kernel
theorem dX2_joined_151 : decode cX2_joined 151 = .ok (.lreturn, 1) := by decide +kernel
theorem dX2_joined_152 : decode cX2_joined 152 = .ok (.lload_n 3, 1) := by decide +kernel
theorem dX2_joined_153 : decode cX2_joined 153 = .ok (.lconst 0, 1) := by decide +kernel
theorem dX2_joined_154 : decode cX2_joined 154 = .ok (.lcmp, 1) := by decide +kernel
theorem dX2_joined_155 : decode cX2_joined 155 = .ok (.ifCond .ne 7, 3) := by decide +kernel
theorem dX2_joined_158 : decode cX2_joined 158 = .ok (.lconst 0, 1) := by decide +kernel
theorem dX2_joined_159 : decode cX2_joined 159 = .ok (.goto 6, 3) := by decide +kernel
theorem dX2_joined_162 : decode cX2_joined 162 = .ok (.lload_n 1, 1) := by decide +kernel
theorem dX2_joined_163 : decode cX2_joined 163 = .ok (.lload_n 3, 1) := by decide +kernel
theorem dX2_joined_164 : decode cX2_joined 164 = .ok (.ldiv, 1) := by decide +kernel
theorem dX2_joined_165 : decode cX2_joined 165 = .ok (.lreturn, 1) := by decide +kernel
theorem dX7_init_0 : decode cX7_init 0 = .ok (.aload_n 0, 1) := by decide +kernel
theorem dX7_init_1 : decode cX7_init 1 = .ok (.invokespecial 3, 3) := by decide +kernel
theorem dX7_init_4 : decode cX7_init 4 = .ok (.aload_n 0, 1) := by decide +kernel
theorem dX7_init_5 : decode cX7_init 5 = .ok (.iconst 4, 1) := by decide +kernel
theorem dX7_init_6 : decode cX7_init 6 = .ok (.anewarray 9, 3) := by decide +kernel
theorem dX7_init_9 : decode cX7_init 9 = .ok (.putfield 11, 3) := by decide +kernel
theorem dX7_init_12 : decode cX7_init 12 = .ok (.aload_n 0, 1) := by decide +kernel
theorem dX7_init_13 : decode cX7_init 13 = .ok (.iconst 3, 1) := by decide +kernel
theorem dX7_init_14 : decode cX7_init 14 = .ok (.newarray .int, 2) := by decide +kernel
theorem dX7_init_16 : decode cX7_init 16 = .ok (.putfield 17, 3) := by decide +kernel
theorem dX7_init_19 : decode cX7_init 19 = .ok (.aload_n 0, 1) := by decide +kernel
theorem dX7_init_20 : decode cX7_init 20 = .ok (.aload_n 1, 1) := by decide +kernel
theorem dX7_init_21 : decode cX7_init 21 = .ok (.putfield 21, 3) := by decide +kernel
theorem dX7_init_24 : decode cX7_init 24 = .ok (.aload_n 0, 1) := by decide +kernel
theorem dX7_init_25 : decode cX7_init 25 = .ok (.aload_n 2, 1) := by decide +kernel
theorem dX7_init_26 : decode cX7_init 26 = .ok (.putfield 25, 3) := by decide +kernel
theorem dX7_init_29 : decode cX7_init 29 = .ok (.aload_n 0, 1) := by decide +kernel
theorem dX7_init_30 : decode cX7_init 30 = .ok (.aload_n 3, 1) := by decide +kernel
theorem dX7_init_31 : decode cX7_init 31 = .ok (.putfield 28, 3) := by decide +kernel
theorem dX7_init_34 : decode cX7_init 34 = .ok (.iconst 0, 1) := by decide +kernel
theorem dX7_init_35 : decode cX7_init 35 = .ok (.istore 4, 2) := by decide +kernel
theorem dX7_init_37 : decode cX7_init 37 = .ok (.iload 4, 2) := by decide +kernel
theorem dX7_init_39 : decode cX7_init 39 = .ok (.aload_n 0, 1) := by decide +kernel
theorem dX7_init_40 : decode cX7_init 40 = .ok (.getfield 11, 3) := by decide +kernel
theorem dX7_init_43 : decode cX7_init 43 = .ok (.arraylength, 1) := by decide +kernel
theorem dX7_init_44 : decode cX7_init 44 = .ok (.if_icmp .ge 23, 3) := by decide +kernel
theorem dX7_init_47 : decode cX7_init 47 = .ok (.aload_n 0, 1) := by decide +kernel
theorem dX7_init_48 : decode cX7_init 48 = .ok (.getfield 11, 3) := by decide +kernel
theorem dX7_init_51 : decode cX7_init 51 = .ok (.iload 4, 2) := by decide +kernel
theorem dX7_init_53 : decode cX7_init 53 = .ok (.new 9, 3) := by decide +kernel
theorem dX7_init_56 : decode cX7_init 56 = .ok (.dup, 1) := by decide +kernel
theorem dX7_init_57 : decode cX7_init 57 = .ok (.invokespecial 32, 3) := by decide +kernel
theorem dX7_init_60 : decode cX7_init 60 = .ok (.aastore, 1) := by decide +kernel
theorem dX7_init_61 : decode cX7_init 61 = .ok (.iinc 4 1, 3) := by decide +kernel
theorem dX7_init_64 : decode cX7_init 64 = .ok (.goto (-27), 3) := by decide +kernel
theorem dX7_init_67 : decode cX7_init 67 = .ok (.return_, 1) := by decide +kernel
theorem dX7_behind_0 : decode cX7_behind 0 = .ok (.aload_n 0, 1) := by decide +kernel
theorem dX7_behind_1 : decode cX7_behind 1 = .ok (.getfield 11, 3) := by decide +kernel
theorem dX7_behind_4 : decode cX7_behind 4 = .ok (.iconst 0, 1) := by decide +kernel
theorem dX7_behind_5 : decode cX7_behind 5 = .ok (.aaload, 1) := by decide +kernel
theorem dX7_behind_6 : decode cX7_behind 6 = .ok (.astore_n 2, 1) := by decide +kernel
theorem dX7_behind_7 : decode cX7_behind 7 = .ok (.aload_n 2, 1) := by decide +kernel
theorem dX7_behind_8 : decode cX7_behind 8 = .ok (.aload_n 0, 1) := by decide +kernel
theorem dX7_behind_9 : decode cX7_behind 9 = .ok (.getfield 21, 3) := by decide +kernel
theorem dX7_behind_12 : decode cX7_behind 12 = .ok (.getfield 33, 3) := by decide +kernel
theorem dX7_behind_15 : decode cX7_behind 15 = .ok (.invokevirtual 39, 3) := by decide +kernel
theorem dX7_behind_18 : decode cX7_behind 18 = .ok (.iconst 0, 1) := by decide +kernel
theorem dX7_behind_19 : decode cX7_behind 19 = .ok (.istore_n 3, 1) := by decide +kernel
theorem dX7_behind_20 : decode cX7_behind 20 = .ok (.iload_n 3, 1) := by decide +kernel
theorem dX7_behind_21 : decode cX7_behind 21 = .ok (.iload_n 1, 1) := by decide +kernel
theorem dX7_behind_22 : decode cX7_behind 22 = .ok (.if_icmp .ge 27, 3) := by decide +kernel
theorem dX7_behind_25 : decode cX7_behind 25 = .ok (.aload_n 2, 1) := by decide +kernel
theorem dX7_behind_26 : decode cX7_behind 26 = .ok (.getfield 43, 3) := by decide +kernel
theorem dX7_behind_29 : decode cX7_behind 29 = .ok (.sipush 9999, 3) := by decide +kernel
theorem dX7_behind_32 : decode cX7_behind 32 = .ok (.if_icmp .ge 17, 3) := by decide +kernel
theorem dX7_behind_35 : decode cX7_behind 35 = .ok (.aload_n 0, 1) := by decide +kernel
theorem dX7_behind_36 : decode cX7_behind 36 = .ok (.getfield 28, 3) := by decide +kernel
theorem dX7_behind_39 : decode cX7_behind 39 = .ok (.aload_n 2, 1) := by decide +kernel
theorem dX7_behind_40 : decode cX7_behind 40 = .ok (.invokevirtual 47, 3) := by decide +kernel
theorem dX7_behind_43 : decode cX7_behind 43 = .ok (.iinc 3 1, 3) := by decide +kernel
theorem dX7_behind_46 : decode cX7_behind 46 = .ok (.goto (-26), 3) := by decide +kernel
theorem dX7_behind_49 : decode cX7_behind 49 = .ok (.aload_n 2, 1) := by decide +kernel
theorem dX7_behind_50 : decode cX7_behind 50 = .ok (.areturn, 1) := by decide +kernel
theorem dX7_tried_0 : decode cX7_tried 0 = .ok (.iload_n 3, 1) := by decide +kernel
theorem dX7_tried_1 : decode cX7_tried 1 = .ok (.iconst 2, 1) := by decide +kernel
theorem dX7_tried_2 : decode cX7_tried 2 = .ok (.idiv, 1) := by decide +kernel
theorem dX7_tried_3 : decode cX7_tried 3 = .ok (.istore 4, 2) := by decide +kernel
theorem dX7_tried_5 : decode cX7_tried 5 = .ok (.aload_n 0, 1) := by decide +kernel
theorem dX7_tried_6 : decode cX7_tried 6 = .ok (.getfield 11, 3) := by decide +kernel
theorem dX7_tried_9 : decode cX7_tried 9 = .ok (.iload_n 1, 1) := by decide +kernel
theorem dX7_tried_10 : decode cX7_tried 10 = .ok (.aaload, 1) := by decide +kernel
theorem dX7_tried_11 : decode cX7_tried 11 = .ok (.getfield 52, 3) := by decide +kernel
theorem dX7_tried_14 : decode cX7_tried 14 = .ok (.iload 4, 2) := by decide +kernel
theorem dX7_tried_16 : decode cX7_tried 16 = .ok (.iaload, 1) := by decide +kernel
theorem dX7_tried_17 : decode cX7_tried 17 = .ok (.ifCond .gt 5, 3) := by decide +kernel
theorem dX7_tried_20 : decode cX7_tried 20 = .ok (.iconst 0, 1) := by decide +kernel
theorem dX7_tried_21 : decode cX7_tried 21 = .ok (.ireturn, 1) := by decide +kernel
theorem dX7_tried_22 : decode cX7_tried 22 = .ok (.aload_n 0, 1) := by decide +kernel
theorem dX7_tried_23 : decode cX7_tried 23 = .ok (.getfield 11, 3) := by decide +kernel
theorem dX7_tried_26 : decode cX7_tried 26 = .ok (.iload_n 1, 1) := by decide +kernel
theorem dX7_tried_27 : decode cX7_tried 27 = .ok (.iconst 1, 1) := by decide +kernel
theorem dX7_tried_28 : decode cX7_tried 28 = .ok (.iadd, 1) := by decide +kernel
theorem dX7_tried_29 : decode cX7_tried 29 = .ok (.aaload, 1) := by decide +kernel
theorem dX7_tried_30 : decode cX7_tried 30 = .ok (.aload_n 0, 1) := by decide +kernel
theorem dX7_tried_31 : decode cX7_tried 31 = .ok (.getfield 11, 3) := by decide +kernel
theorem dX7_tried_34 : decode cX7_tried 34 = .ok (.iload_n 1, 1) := by decide +kernel
theorem dX7_tried_35 : decode cX7_tried 35 = .ok (.aaload, 1) := by decide +kernel
theorem dX7_tried_36 : decode cX7_tried 36 = .ok (.invokevirtual 55, 3) := by decide +kernel
theorem dX7_tried_39 : decode cX7_tried 39 = .ok (.aload_n 0, 1) := by decide +kernel
theorem dX7_tried_40 : decode cX7_tried 40 = .ok (.getfield 28, 3) := by decide +kernel
theorem dX7_tried_43 : decode cX7_tried 43 = .ok (.aload_n 0, 1) := by decide +kernel
theorem dX7_tried_44 : decode cX7_tried 44 = .ok (.getfield 11, 3) := by decide +kernel
theorem dX7_tried_47 : decode cX7_tried 47 = .ok (.iload_n 1, 1) := by decide +kernel
theorem dX7_tried_48 : decode cX7_tried 48 = .ok (.iconst 1, 1) := by decide +kernel
theorem dX7_tried_49 : decode cX7_tried 49 = .ok (.iadd, 1) := by decide +kernel
theorem dX7_tried_50 : decode cX7_tried 50 = .ok (.aaload, 1) := by decide +kernel
theorem dX7_tried_51 : decode cX7_tried 51 = .ok (.iload_n 2, 1) := by decide +kernel
theorem dX7_tried_52 : decode cX7_tried 52 = .ok (.iload 4, 2) := by decide +kernel
theorem dX7_tried_54 : decode cX7_tried 54 = .ok (.iload_n 3, 1) := by decide +kernel
theorem dX7_tried_55 : decode cX7_tried 55 = .ok (.iconst 2, 1) := by decide +kernel
theorem dX7_tried_56 : decode cX7_tried 56 = .ok (.irem, 1) := by decide +kernel
theorem dX7_tried_57 : decode cX7_tried 57 = .ok (.iconst 1, 1) := by decide +kernel
theorem dX7_tried_58 : decode cX7_tried 58 = .ok (.if_icmp .ne 7, 3) := by decide +kernel
theorem dX7_tried_61 : decode cX7_tried 61 = .ok (.iconst 1, 1) := by decide +kernel
theorem dX7_tried_62 : decode cX7_tried 62 = .ok (.goto 4, 3) := by decide +kernel
theorem dX7_tried_65 : decode cX7_tried 65 = .ok (.iconst 0, 1) := by decide +kernel
theorem dX7_tried_66 : decode cX7_tried 66 = .ok (.invokevirtual 58, 3) := by decide +kernel
theorem dX7_tried_69 : decode cX7_tried 69 = .ok (.pop, 1) := by decide +kernel
theorem dX7_tried_70 : decode cX7_tried 70 = .ok (.iconst 1, 1) := by decide +kernel
theorem dX7_tried_71 : decode cX7_tried 71 = .ok (.ireturn, 1) := by decide +kernel
theorem dX7_flattest_0 : decode cX7_flattest 0 = .ok (.iconst (-1), 1) := by decide +kernel
theorem dX7_flattest_1 : decode cX7_flattest 1 = .ok (.istore_n 2, 1) := by decide +kernel
theorem dX7_flattest_2 : decode cX7_flattest 2 = .ok (.iconst 0, 1) := by decide +kernel
theorem dX7_flattest_3 : decode cX7_flattest 3 = .ok (.istore_n 3, 1) := by decide +kernel
theorem dX7_flattest_4 : decode cX7_flattest 4 = .ok (.aload_n 0, 1) := by decide +kernel
theorem dX7_flattest_5 : decode cX7_flattest 5 = .ok (.getfield 11, 3) := by decide +kernel
theorem dX7_flattest_8 : decode cX7_flattest 8 = .ok (.iconst 0, 1) := by decide +kernel
theorem dX7_flattest_9 : decode cX7_flattest 9 = .ok (.aaload, 1) := by decide +kernel
theorem dX7_flattest_10 : decode cX7_flattest 10 = .ok (.aload_n 0, 1) := by decide +kernel
theorem dX7_flattest_11 : decode cX7_flattest 11 = .ok (.getfield 21, 3) := by decide +kernel
theorem dX7_flattest_14 : decode cX7_flattest 14 = .ok (.getfield 33, 3) := by decide +kernel
theorem dX7_flattest_17 : decode cX7_flattest 17 = .ok (.invokevirtual 55, 3) := by decide +kernel
theorem dX7_flattest_20 : decode cX7_flattest 20 = .ok (.iconst 0, 1) := by decide +kernel
theorem dX7_flattest_21 : decode cX7_flattest 21 = .ok (.istore 4, 2) := by decide +kernel
theorem dX7_flattest_23 : decode cX7_flattest 23 = .ok (.iload 4, 2) := by decide +kernel
theorem dX7_flattest_25 : decode cX7_flattest 25 = .ok (.bipush 24, 2) := by decide +kernel
theorem dX7_flattest_27 : decode cX7_flattest 27 = .ok (.if_icmp .ge 58, 3) := by decide +kernel
theorem dX7_flattest_30 : decode cX7_flattest 30 = .ok (.aload_n 0, 1) := by decide +kernel
theorem dX7_flattest_31 : decode cX7_flattest 31 = .ok (.iconst 0, 1) := by decide +kernel
theorem dX7_flattest_32 : decode cX7_flattest 32 = .ok (.iload_n 1, 1) := by decide +kernel
theorem dX7_flattest_33 : decode cX7_flattest 33 = .ok (.iload 4, 2) := by decide +kernel
theorem dX7_flattest_35 : decode cX7_flattest 35 = .ok (.invokevirtual 62, 3) := by decide +kernel
theorem dX7_flattest_38 : decode cX7_flattest 38 = .ok (.ifCond .eq 41, 3) := by decide +kernel
theorem dX7_flattest_41 : decode cX7_flattest 41 = .ok (.aload_n 0, 1) := by decide +kernel
theorem dX7_flattest_42 : decode cX7_flattest 42 = .ok (.getfield 11, 3) := by decide +kernel
theorem dX7_flattest_45 : decode cX7_flattest 45 = .ok (.iconst 1, 1) := by decide +kernel
theorem dX7_flattest_46 : decode cX7_flattest 46 = .ok (.aaload, 1) := by decide +kernel
theorem dX7_flattest_47 : decode cX7_flattest 47 = .ok (.getfield 52, 3) := by decide +kernel
theorem dX7_flattest_50 : decode cX7_flattest 50 = .ok (.astore 5, 2) := by decide +kernel
theorem dX7_flattest_52 : decode cX7_flattest 52 = .ok (.aload 5, 2) := by decide +kernel
theorem dX7_flattest_54 : decode cX7_flattest 54 = .ok (.aload 5, 2) := by decide +kernel
theorem dX7_flattest_56 : decode cX7_flattest 56 = .ok (.invokestatic 66, 3) := by decide +kernel
theorem dX7_flattest_59 : decode cX7_flattest 59 = .ok (.iaload, 1) := by decide +kernel
theorem dX7_flattest_60 : decode cX7_flattest 60 = .ok (.istore 6, 2) := by decide +kernel
theorem dX7_flattest_62 : decode cX7_flattest 62 = .ok (.iload_n 2, 1) := by decide +kernel
theorem dX7_flattest_63 : decode cX7_flattest 63 = .ok (.iconst (-1), 1) := by decide +kernel
theorem dX7_flattest_64 : decode cX7_flattest 64 = .ok (.if_icmp .eq 9, 3) := by decide +kernel
theorem dX7_flattest_67 : decode cX7_flattest 67 = .ok (.iload 6, 2) := by decide +kernel
theorem dX7_flattest_69 : decode cX7_flattest 69 = .ok (.iload_n 3, 1) := by decide +kernel
theorem dX7_flattest_70 : decode cX7_flattest 70 = .ok (.if_icmp .ge 9, 3) := by decide +kernel
theorem dX7_flattest_73 : decode cX7_flattest 73 = .ok (.iload 4, 2) := by decide +kernel
theorem dX7_flattest_75 : decode cX7_flattest 75 = .ok (.istore_n 2, 1) := by decide +kernel
theorem dX7_flattest_76 : decode cX7_flattest 76 = .ok (.iload 6, 2) := by decide +kernel
theorem dX7_flattest_78 : decode cX7_flattest 78 = .ok (.istore_n 3, 1) := by decide +kernel
theorem dX7_flattest_79 : decode cX7_flattest 79 = .ok (.iinc 4 1, 3) := by decide +kernel
theorem dX7_flattest_82 : decode cX7_flattest 82 = .ok (.goto (-59), 3) := by decide +kernel
theorem dX7_flattest_85 : decode cX7_flattest 85 = .ok (.iload_n 2, 1) := by decide +kernel
theorem dX7_flattest_86 : decode cX7_flattest 86 = .ok (.ireturn, 1) := by decide +kernel
theorem dX7_tearingStrokes_0 : decode cX7_tearingStrokes 0 = .ok (.iconst 0, 1) := by decide +kernel
theorem dX7_tearingStrokes_1 : decode cX7_tearingStrokes 1 = .ok (.istore_n 2, 1) := by decide +kernel
theorem dX7_tearingStrokes_2 : decode cX7_tearingStrokes 2 = .ok (.aload_n 0, 1) := by decide +kernel
theorem dX7_tearingStrokes_3 : decode cX7_tearingStrokes 3 = .ok (.getfield 11, 3) := by decide +kernel
theorem dX7_tearingStrokes_6 : decode cX7_tearingStrokes 6 = .ok (.iconst 0, 1) := by decide +kernel
theorem dX7_tearingStrokes_7 : decode cX7_tearingStrokes 7 = .ok (.aaload, 1) := by decide +kernel
theorem dX7_tearingStrokes_8 : decode cX7_tearingStrokes 8 = .ok (.aload_n 0, 1) := by decide +kernel
theorem dX7_tearingStrokes_9 : decode cX7_tearingStrokes 9 = .ok (.getfield 21, 3) := by decide +kernel
theorem dX7_tearingStrokes_12 : decode cX7_tearingStrokes 12 = .ok (.getfield 33, 3) := by decide +kernel
theorem dX7_tearingStrokes_15 : decode cX7_tearingStrokes 15 = .ok (.invokevirtual 55, 3) := by decide +kernel
theorem dX7_tearingStrokes_18 : decode cX7_tearingStrokes 18 = .ok (.iconst 0, 1) := by decide +kernel
theorem dX7_tearingStrokes_19 : decode cX7_tearingStrokes 19 = .ok (.istore_n 3, 1) := by decide +kernel
theorem dX7_tearingStrokes_20 : decode cX7_tearingStrokes 20 = .ok (.iload_n 3, 1) := by decide +kernel
theorem dX7_tearingStrokes_21 : decode cX7_tearingStrokes 21 = .ok (.bipush 24, 2) := by decide +kernel
theorem dX7_tearingStrokes_23 : decode cX7_tearingStrokes 23 = .ok (.if_icmp .ge 43, 3) := by decide +kernel
theorem dX7_tearingStrokes_26 : decode cX7_tearingStrokes 26 = .ok (.aload_n 0, 1) := by decide +kernel
theorem dX7_tearingStrokes_27 : decode cX7_tearingStrokes 27 = .ok (.iconst 0, 1) := by decide +kernel
theorem dX7_tearingStrokes_28 : decode cX7_tearingStrokes 28 = .ok (.iload_n 1, 1) := by decide +kernel
theorem dX7_tearingStrokes_29 : decode cX7_tearingStrokes 29 = .ok (.iload_n 3, 1) := by decide +kernel
theorem dX7_tearingStrokes_30 : decode cX7_tearingStrokes 30 = .ok (.invokevirtual 62, 3) := by decide +kernel
theorem dX7_tearingStrokes_33 : decode cX7_tearingStrokes 33 = .ok (.ifCond .eq 27, 3) := by decide +kernel
theorem dX7_tearingStrokes_36 : decode cX7_tearingStrokes 36 = .ok (.aload_n 0, 1) := by decide +kernel
theorem dX7_tearingStrokes_37 : decode cX7_tearingStrokes 37 = .ok (.getfield 11, 3) := by decide +kernel
theorem dX7_tearingStrokes_40 : decode cX7_tearingStrokes 40 = .ok (.iconst 1, 1) := by decide +kernel
theorem dX7_tearingStrokes_41 : decode cX7_tearingStrokes 41 = .ok (.aaload, 1) := by decide +kernel
theorem dX7_tearingStrokes_42 : decode cX7_tearingStrokes 42 = .ok (.getfield 72, 3) := by decide +kernel
theorem dX7_tearingStrokes_45 : decode cX7_tearingStrokes 45 = .ok (.aload_n 0, 1) := by decide +kernel
theorem dX7_tearingStrokes_46 : decode cX7_tearingStrokes 46 = .ok (.getfield 11, 3) := by decide +kernel
theorem dX7_tearingStrokes_49 : decode cX7_tearingStrokes 49 = .ok (.iconst 0, 1) := by decide +kernel
theorem dX7_tearingStrokes_50 : decode cX7_tearingStrokes 50 = .ok (.aaload, 1) := by decide +kernel
theorem dX7_tearingStrokes_51 : decode cX7_tearingStrokes 51 = .ok (.getfield 72, 3) := by decide +kernel
theorem dX7_tearingStrokes_54 : decode cX7_tearingStrokes 54 = .ok (.if_icmp .eq 6, 3) := by decide +kernel
theorem dX7_tearingStrokes_57 : decode cX7_tearingStrokes 57 = .ok (.iinc 2 1, 3) := by decide +kernel
theorem dX7_tearingStrokes_60 : decode cX7_tearingStrokes 60 = .ok (.iinc 3 1, 3) := by decide +kernel
theorem dX7_tearingStrokes_63 : decode cX7_tearingStrokes 63 = .ok (.goto (-43), 3) := by decide +kernel
theorem dX7_tearingStrokes_66 : decode cX7_tearingStrokes 66 = .ok (.iload_n 2, 1) := by decide +kernel
theorem dX7_tearingStrokes_67 : decode cX7_tearingStrokes 67 = .ok (.ireturn, 1) := by decide +kernel
theorem dX7_fewest_0 : decode cX7_fewest 0 = .ok (.aload_n 0, 1) := by decide +kernel
theorem dX7_fewest_1 : decode cX7_fewest 1 = .ok (.getfield 11, 3) := by decide +kernel
theorem dX7_fewest_4 : decode cX7_fewest 4 = .ok (.iconst 0, 1) := by decide +kernel
theorem dX7_fewest_5 : decode cX7_fewest 5 = .ok (.aaload, 1) := by decide +kernel
theorem dX7_fewest_6 : decode cX7_fewest 6 = .ok (.aload_n 0, 1) := by decide +kernel
theorem dX7_fewest_7 : decode cX7_fewest 7 = .ok (.getfield 21, 3) := by decide +kernel
theorem dX7_fewest_10 : decode cX7_fewest 10 = .ok (.getfield 33, 3) := by decide +kernel
theorem dX7_fewest_13 : decode cX7_fewest 13 = .ok (.invokevirtual 55, 3) := by decide +kernel
theorem dX7_fewest_16 : decode cX7_fewest 16 = .ok (.iconst 0, 1) := by decide +kernel
theorem dX7_fewest_17 : decode cX7_fewest 17 = .ok (.istore_n 3, 1) := by decide +kernel
theorem dX7_fewest_18 : decode cX7_fewest 18 = .ok (.iload_n 3, 1) := by decide +kernel
theorem dX7_fewest_19 : decode cX7_fewest 19 = .ok (.iconst 3, 1) := by decide +kernel
theorem dX7_fewest_20 : decode cX7_fewest 20 = .ok (.if_icmp .gt 22, 3) := by decide +kernel
theorem dX7_fewest_23 : decode cX7_fewest 23 = .ok (.aload_n 0, 1) := by decide +kernel
theorem dX7_fewest_24 : decode cX7_fewest 24 = .ok (.iconst 0, 1) := by decide +kernel
theorem dX7_fewest_25 : decode cX7_fewest 25 = .ok (.iload_n 3, 1) := by decide +kernel
theorem dX7_fewest_26 : decode cX7_fewest 26 = .ok (.iload_n 1, 1) := by decide +kernel
theorem dX7_fewest_27 : decode cX7_fewest 27 = .ok (.iload_n 2, 1) := by decide +kernel
theorem dX7_fewest_28 : decode cX7_fewest 28 = .ok (.invokevirtual 75, 3) := by decide +kernel
theorem dX7_fewest_31 : decode cX7_fewest 31 = .ok (.ifCond .eq 5, 3) := by decide +kernel
theorem dX7_fewest_34 : decode cX7_fewest 34 = .ok (.iload_n 3, 1) := by decide +kernel
theorem dX7_fewest_35 : decode cX7_fewest 35 = .ok (.ireturn, 1) := by decide +kernel
theorem dX7_fewest_36 : decode cX7_fewest 36 = .ok (.iinc 3 1, 3) := by decide +kernel
theorem dX7_fewest_39 : decode cX7_fewest 39 = .ok (.goto (-21), 3) := by decide +kernel
theorem dX7_fewest_42 : decode cX7_fewest 42 = .ok (.bipush (-2), 2) := by decide +kernel
theorem dX7_fewest_44 : decode cX7_fewest 44 = .ok (.ireturn, 1) := by decide +kernel
theorem dX7_isPlan_0 : decode cX7_isPlan 0 = .ok (.aload_n 0, 1) := by decide +kernel
theorem dX7_isPlan_1 : decode cX7_isPlan 1 = .ok (.getfield 11, 3) := by decide +kernel
theorem dX7_isPlan_4 : decode cX7_isPlan 4 = .ok (.iload_n 1, 1) := by decide +kernel
theorem dX7_isPlan_5 : decode cX7_isPlan 5 = .ok (.aaload, 1) := by decide +kernel
theorem dX7_isPlan_6 : decode cX7_isPlan 6 = .ok (.getfield 52, 3) := by decide +kernel
theorem dX7_isPlan_9 : decode cX7_isPlan 9 = .ok (.iload 4, 2) := by decide +kernel
theorem dX7_isPlan_11 : decode cX7_isPlan 11 = .ok (.invokestatic 79, 3) := by decide +kernel
theorem dX7_isPlan_14 : decode cX7_isPlan 14 = .ok (.istore 5, 2) := by decide +kernel
theorem dX7_isPlan_16 : decode cX7_isPlan 16 = .ok (.iload_n 1, 1) := by decide +kernel
theorem dX7_isPlan_17 : decode cX7_isPlan 17 = .ok (.iload_n 2, 1) := by decide +kernel
theorem dX7_isPlan_18 : decode cX7_isPlan 18 = .ok (.if_icmp .ge 11, 3) := by decide +kernel
theorem dX7_isPlan_21 : decode cX7_isPlan 21 = .ok (.iload 5, 2) := by decide +kernel
theorem dX7_isPlan_23 : decode cX7_isPlan 23 = .ok (.iload_n 2, 1) := by decide +kernel
theorem dX7_isPlan_24 : decode cX7_isPlan 24 = .ok (.iload_n 1, 1) := by decide +kernel
theorem dX7_isPlan_25 : decode cX7_isPlan 25 = .ok (.isub, 1) := by decide +kernel
theorem dX7_isPlan_26 : decode cX7_isPlan 26 = .ok (.if_icmp .le 14, 3) := by decide +kernel
theorem dX7_isPlan_29 : decode cX7_isPlan 29 = .ok (.iload 5, 2) := by decide +kernel
theorem dX7_isPlan_31 : decode cX7_isPlan 31 = .ok (.ifCond .ne 7, 3) := by decide +kernel
theorem dX7_isPlan_34 : decode cX7_isPlan 34 = .ok (.iconst 1, 1) := by decide +kernel
theorem dX7_isPlan_35 : decode cX7_isPlan 35 = .ok (.goto 4, 3) := by decide +kernel
theorem dX7_isPlan_38 : decode cX7_isPlan 38 = .ok (.iconst 0, 1) := by decide +kernel
theorem dX7_isPlan_39 : decode cX7_isPlan 39 = .ok (.ireturn, 1) := by decide +kernel
theorem dX7_isPlan_40 : decode cX7_isPlan 40 = .ok (.iload 5, 2) := by decide +kernel
theorem dX7_isPlan_42 : decode cX7_isPlan 42 = .ok (.iload_n 2, 1) := by decide +kernel
theorem dX7_isPlan_43 : decode cX7_isPlan 43 = .ok (.iload_n 1, 1) := by decide +kernel
theorem dX7_isPlan_44 : decode cX7_isPlan 44 = .ok (.isub, 1) := by decide +kernel
theorem dX7_isPlan_45 : decode cX7_isPlan 45 = .ok (.if_icmp .ne 7, 3) := by decide +kernel
theorem dX7_isPlan_48 : decode cX7_isPlan 48 = .ok (.iconst 1, 1) := by decide +kernel
theorem dX7_isPlan_49 : decode cX7_isPlan 49 = .ok (.goto 4, 3) := by decide +kernel
theorem dX7_isPlan_52 : decode cX7_isPlan 52 = .ok (.iconst 0, 1) := by decide +kernel
theorem dX7_isPlan_53 : decode cX7_isPlan 53 = .ok (.istore 6, 2) := by decide +kernel
theorem dX7_isPlan_55 : decode cX7_isPlan 55 = .ok (.iconst 0, 1) := by decide +kernel
theorem dX7_isPlan_56 : decode cX7_isPlan 56 = .ok (.istore 7, 2) := by decide +kernel
theorem dX7_isPlan_58 : decode cX7_isPlan 58 = .ok (.iload 7, 2) := by decide +kernel
theorem dX7_isPlan_60 : decode cX7_isPlan 60 = .ok (.bipush 24, 2) := by decide +kernel
theorem dX7_isPlan_62 : decode cX7_isPlan 62 = .ok (.if_icmp .ge 103, 3) := by decide +kernel
theorem dX7_isPlan_65 : decode cX7_isPlan 65 = .ok (.iload 6, 2) := by decide +kernel
theorem dX7_isPlan_67 : decode cX7_isPlan 67 = .ok (.ifCond .eq 22, 3) := by decide +kernel
theorem dX7_isPlan_70 : decode cX7_isPlan 70 = .ok (.aload_n 0, 1) := by decide +kernel
theorem dX7_isPlan_71 : decode cX7_isPlan 71 = .ok (.getfield 11, 3) := by decide +kernel
theorem dX7_isPlan_74 : decode cX7_isPlan 74 = .ok (.iload_n 1, 1) := by decide +kernel
theorem dX7_isPlan_75 : decode cX7_isPlan 75 = .ok (.aaload, 1) := by decide +kernel
theorem dX7_isPlan_76 : decode cX7_isPlan 76 = .ok (.getfield 52, 3) := by decide +kernel
theorem dX7_isPlan_79 : decode cX7_isPlan 79 = .ok (.iload 7, 2) := by decide +kernel
theorem dX7_isPlan_81 : decode cX7_isPlan 81 = .ok (.iconst 2, 1) := by decide +kernel
theorem dX7_isPlan_82 : decode cX7_isPlan 82 = .ok (.idiv, 1) := by decide +kernel
theorem dX7_isPlan_83 : decode cX7_isPlan 83 = .ok (.iaload, 1) := by decide +kernel
theorem dX7_isPlan_84 : decode cX7_isPlan 84 = .ok (.iload 4, 2) := by decide +kernel
theorem dX7_isPlan_86 : decode cX7_isPlan 86 = .ok (.if_icmp .le 7, 3) := by decide +kernel
theorem dX7_isPlan_89 : decode cX7_isPlan 89 = .ok (.iconst 1, 1) := by decide +kernel
theorem dX7_isPlan_90 : decode cX7_isPlan 90 = .ok (.goto 4, 3) := by decide +kernel
theorem dX7_isPlan_93 : decode cX7_isPlan 93 = .ok (.iconst 0, 1) := by decide +kernel
theorem dX7_isPlan_94 : decode cX7_isPlan 94 = .ok (.istore 8, 2) := by decide +kernel
theorem dX7_isPlan_96 : decode cX7_isPlan 96 = .ok (.iload 8, 2) := by decide +kernel
theorem dX7_isPlan_98 : decode cX7_isPlan 98 = .ok (.ifCond .eq 61, 3) := by decide +kernel
theorem dX7_isPlan_101 : decode cX7_isPlan 101 = .ok (.aload_n 0, 1) := by decide +kernel
theorem dX7_isPlan_102 : decode cX7_isPlan 102 = .ok (.iload_n 1, 1) := by decide +kernel
theorem dX7_isPlan_103 : decode cX7_isPlan 103 = .ok (.iload_n 3, 1) := by decide +kernel
theorem dX7_isPlan_104 : decode cX7_isPlan 104 = .ok (.iload 7, 2) := by decide +kernel
theorem dX7_isPlan_106 : decode cX7_isPlan 106 = .ok (.invokevirtual 62, 3) := by decide +kernel
theorem dX7_isPlan_109 : decode cX7_isPlan 109 = .ok (.ifCond .eq 50, 3) := by decide +kernel
theorem dX7_isPlan_112 : decode cX7_isPlan 112 = .ok (.aload_n 0, 1) := by decide +kernel
theorem dX7_isPlan_113 : decode cX7_isPlan 113 = .ok (.getfield 11, 3) := by decide +kernel
theorem dX7_isPlan_116 : decode cX7_isPlan 116 = .ok (.iload_n 1, 1) := by decide +kernel
theorem dX7_isPlan_117 : decode cX7_isPlan 117 = .ok (.iconst 1, 1) := by decide +kernel
theorem dX7_isPlan_118 : decode cX7_isPlan 118 = .ok (.iadd, 1) := by decide +kernel
theorem dX7_isPlan_119 : decode cX7_isPlan 119 = .ok (.aaload, 1) := by decide +kernel
theorem dX7_isPlan_120 : decode cX7_isPlan 120 = .ok (.getfield 72, 3) := by decide +kernel
theorem dX7_isPlan_123 : decode cX7_isPlan 123 = .ok (.aload_n 0, 1) := by decide +kernel
theorem dX7_isPlan_124 : decode cX7_isPlan 124 = .ok (.getfield 11, 3) := by decide +kernel
theorem dX7_isPlan_127 : decode cX7_isPlan 127 = .ok (.iload_n 1, 1) := by decide +kernel
theorem dX7_isPlan_128 : decode cX7_isPlan 128 = .ok (.aaload, 1) := by decide +kernel
theorem dX7_isPlan_129 : decode cX7_isPlan 129 = .ok (.getfield 72, 3) := by decide +kernel
theorem dX7_isPlan_132 : decode cX7_isPlan 132 = .ok (.if_icmp .ne 27, 3) := by decide +kernel
theorem dX7_isPlan_135 : decode cX7_isPlan 135 = .ok (.aload_n 0, 1) := by decide +kernel
theorem dX7_isPlan_136 : decode cX7_isPlan 136 = .ok (.getfield 17, 3) := by decide +kernel
theorem dX7_isPlan_139 : decode cX7_isPlan 139 = .ok (.iload_n 1, 1) := by decide +kernel
theorem dX7_isPlan_140 : decode cX7_isPlan 140 = .ok (.iload 7, 2) := by decide +kernel
theorem dX7_isPlan_142 : decode cX7_isPlan 142 = .ok (.iastore, 1) := by decide +kernel
theorem dX7_isPlan_143 : decode cX7_isPlan 143 = .ok (.aload_n 0, 1) := by decide +kernel
theorem dX7_isPlan_144 : decode cX7_isPlan 144 = .ok (.iload_n 1, 1) := by decide +kernel
theorem dX7_isPlan_145 : decode cX7_isPlan 145 = .ok (.iconst 1, 1) := by decide +kernel
theorem dX7_isPlan_146 : decode cX7_isPlan 146 = .ok (.iadd, 1) := by decide +kernel
theorem dX7_isPlan_147 : decode cX7_isPlan 147 = .ok (.iload_n 2, 1) := by decide +kernel
theorem dX7_isPlan_148 : decode cX7_isPlan 148 = .ok (.iload_n 3, 1) := by decide +kernel
theorem dX7_isPlan_149 : decode cX7_isPlan 149 = .ok (.iload 4, 2) := by decide +kernel
theorem dX7_isPlan_151 : decode cX7_isPlan 151 = .ok (.invokevirtual 75, 3) := by decide +kernel
theorem dX7_isPlan_154 : decode cX7_isPlan 154 = .ok (.ifCond .eq 5, 3) := by decide +kernel
theorem dX7_isPlan_157 : decode cX7_isPlan 157 = .ok (.iconst 1, 1) := by decide +kernel
theorem dX7_isPlan_158 : decode cX7_isPlan 158 = .ok (.ireturn, 1) := by decide +kernel
theorem dX7_isPlan_159 : decode cX7_isPlan 159 = .ok (.iinc 7 1, 3) := by decide +kernel
theorem dX7_isPlan_162 : decode cX7_isPlan 162 = .ok (.goto (-104), 3) := by decide +kernel
theorem dX7_isPlan_165 : decode cX7_isPlan 165 = .ok (.iconst 0, 1) := by decide +kernel
theorem dX7_isPlan_166 : decode cX7_isPlan 166 = .ok (.ireturn, 1) := by decide +kernel
theorem dX7_seekWays_0 : decode cX7_seekWays 0 = .ok (.aload_n 0, 1) := by decide +kernel
theorem dX7_seekWays_1 : decode cX7_seekWays 1 = .ok (.iconst 0, 1) := by decide +kernel
theorem dX7_seekWays_2 : decode cX7_seekWays 2 = .ok (.putfield 83, 3) := by decide +kernel
theorem dX7_seekWays_5 : decode cX7_seekWays 5 = .ok (.aload_n 0, 1) := by decide +kernel
theorem dX7_seekWays_6 : decode cX7_seekWays 6 = .ok (.iconst (-1), 1) := by decide +kernel
theorem dX7_seekWays_7 : decode cX7_seekWays 7 = .ok (.putfield 86, 3) := by decide +kernel
theorem dX7_seekWays_10 : decode cX7_seekWays 10 = .ok (.aload_n 0, 1) := by decide +kernel
theorem dX7_seekWays_11 : decode cX7_seekWays 11 = .ok (.iconst (-1), 1) := by decide +kernel
theorem dX7_seekWays_12 : decode cX7_seekWays 12 = .ok (.putfield 89, 3) := by decide +kernel
theorem dX7_seekWays_15 : decode cX7_seekWays 15 = .ok (.aload_n 0, 1) := by decide +kernel
theorem dX7_seekWays_16 : decode cX7_seekWays 16 = .ok (.getfield 11, 3) := by decide +kernel
theorem dX7_seekWays_19 : decode cX7_seekWays 19 = .ok (.iconst 0, 1) := by decide +kernel
theorem dX7_seekWays_20 : decode cX7_seekWays 20 = .ok (.aaload, 1) := by decide +kernel
theorem dX7_seekWays_21 : decode cX7_seekWays 21 = .ok (.aload_n 0, 1) := by decide +kernel
theorem dX7_seekWays_22 : decode cX7_seekWays 22 = .ok (.getfield 25, 3) := by decide +kernel
theorem dX7_seekWays_25 : decode cX7_seekWays 25 = .ok (.getfield 33, 3) := by decide +kernel
theorem dX7_seekWays_28 : decode cX7_seekWays 28 = .ok (.invokevirtual 55, 3) := by decide +kernel
theorem dX7_seekWays_31 : decode cX7_seekWays 31 = .ok (.aload_n 0, 1) := by decide +kernel
theorem dX7_seekWays_32 : decode cX7_seekWays 32 = .ok (.getfield 11, 3) := by decide +kernel
theorem dX7_seekWays_35 : decode cX7_seekWays 35 = .ok (.iconst 0, 1) := by decide +kernel
theorem dX7_seekWays_36 : decode cX7_seekWays 36 = .ok (.aaload, 1) := by decide +kernel
theorem dX7_seekWays_37 : decode cX7_seekWays 37 = .ok (.aload_n 0, 1) := by decide +kernel
theorem dX7_seekWays_38 : decode cX7_seekWays 38 = .ok (.getfield 21, 3) := by decide +kernel
theorem dX7_seekWays_41 : decode cX7_seekWays 41 = .ok (.getfield 33, 3) := by decide +kernel
theorem dX7_seekWays_44 : decode cX7_seekWays 44 = .ok (.getfield 43, 3) := by decide +kernel
theorem dX7_seekWays_47 : decode cX7_seekWays 47 = .ok (.putfield 43, 3) := by decide +kernel
theorem dX7_seekWays_50 : decode cX7_seekWays 50 = .ok (.iconst 0, 1) := by decide +kernel
theorem dX7_seekWays_51 : decode cX7_seekWays 51 = .ok (.istore_n 2, 1) := by decide +kernel
theorem dX7_seekWays_52 : decode cX7_seekWays 52 = .ok (.iload_n 2, 1) := by decide +kernel
theorem dX7_seekWays_53 : decode cX7_seekWays 53 = .ok (.bipush 24, 2) := by decide +kernel
theorem dX7_seekWays_55 : decode cX7_seekWays 55 = .ok (.if_icmp .ge 74, 3) := by decide +kernel
theorem dX7_seekWays_58 : decode cX7_seekWays 58 = .ok (.aload_n 0, 1) := by decide +kernel
theorem dX7_seekWays_59 : decode cX7_seekWays 59 = .ok (.iconst 0, 1) := by decide +kernel
theorem dX7_seekWays_60 : decode cX7_seekWays 60 = .ok (.iload_n 1, 1) := by decide +kernel
theorem dX7_seekWays_61 : decode cX7_seekWays 61 = .ok (.iload_n 2, 1) := by decide +kernel
theorem dX7_seekWays_62 : decode cX7_seekWays 62 = .ok (.invokevirtual 62, 3) := by decide +kernel
theorem dX7_seekWays_65 : decode cX7_seekWays 65 = .ok (.ifCond .eq 58, 3) := by decide +kernel
theorem dX7_seekWays_68 : decode cX7_seekWays 68 = .ok (.aload_n 0, 1) := by decide +kernel
theorem dX7_seekWays_69 : decode cX7_seekWays 69 = .ok (.getfield 11, 3) := by decide +kernel
theorem dX7_seekWays_72 : decode cX7_seekWays 72 = .ok (.iconst 1, 1) := by decide +kernel
theorem dX7_seekWays_73 : decode cX7_seekWays 73 = .ok (.aaload, 1) := by decide +kernel
theorem dX7_seekWays_74 : decode cX7_seekWays 74 = .ok (.aload_n 0, 1) := by decide +kernel
theorem dX7_seekWays_75 : decode cX7_seekWays 75 = .ok (.getfield 21, 3) := by decide +kernel
theorem dX7_seekWays_78 : decode cX7_seekWays 78 = .ok (.getfield 33, 3) := by decide +kernel
theorem dX7_seekWays_81 : decode cX7_seekWays 81 = .ok (.invokevirtual 92, 3) := by decide +kernel
theorem dX7_seekWays_84 : decode cX7_seekWays 84 = .ok (.ifCond .eq 33, 3) := by decide +kernel
theorem dX7_seekWays_87 : decode cX7_seekWays 87 = .ok (.aload_n 0, 1) := by decide +kernel
theorem dX7_seekWays_88 : decode cX7_seekWays 88 = .ok (.dup, 1) := by decide +kernel
theorem dX7_seekWays_89 : decode cX7_seekWays 89 = .ok (.getfield 83, 3) := by decide +kernel
theorem dX7_seekWays_92 : decode cX7_seekWays 92 = .ok (.iconst 1, 1) := by decide +kernel
theorem dX7_seekWays_93 : decode cX7_seekWays 93 = .ok (.iadd, 1) := by decide +kernel
theorem dX7_seekWays_94 : decode cX7_seekWays 94 = .ok (.putfield 83, 3) := by decide +kernel
theorem dX7_seekWays_97 : decode cX7_seekWays 97 = .ok (.aload_n 0, 1) := by decide +kernel
theorem dX7_seekWays_98 : decode cX7_seekWays 98 = .ok (.aload_n 0, 1) := by decide +kernel
theorem dX7_seekWays_99 : decode cX7_seekWays 99 = .ok (.getfield 86, 3) := by decide +kernel
theorem dX7_seekWays_102 : decode cX7_seekWays 102 = .ok (.iconst (-1), 1) := by decide +kernel
theorem dX7_seekWays_103 : decode cX7_seekWays 103 = .ok (.if_icmp .ne 7, 3) := by decide +kernel
theorem dX7_seekWays_106 : decode cX7_seekWays 106 = .ok (.iload_n 2, 1) := by decide +kernel
theorem dX7_seekWays_107 : decode cX7_seekWays 107 = .ok (.goto 7, 3) := by decide +kernel
theorem dX7_seekWays_110 : decode cX7_seekWays 110 = .ok (.aload_n 0, 1) := by decide +kernel
theorem dX7_seekWays_111 : decode cX7_seekWays 111 = .ok (.getfield 86, 3) := by decide +kernel
theorem dX7_seekWays_114 : decode cX7_seekWays 114 = .ok (.putfield 86, 3) := by decide +kernel
theorem dX7_seekWays_117 : decode cX7_seekWays 117 = .ok (.aload_n 0, 1) := by decide +kernel
theorem dX7_seekWays_118 : decode cX7_seekWays 118 = .ok (.iload_n 1, 1) := by decide +kernel
theorem dX7_seekWays_119 : decode cX7_seekWays 119 = .ok (.iload_n 2, 1) := by decide +kernel
theorem dX7_seekWays_120 : decode cX7_seekWays 120 = .ok (.invokevirtual 96, 3) := by decide +kernel
theorem dX7_seekWays_123 : decode cX7_seekWays 123 = .ok (.iinc 2 1, 3) := by decide +kernel
theorem dX7_seekWays_126 : decode cX7_seekWays 126 = .ok (.goto (-74), 3) := by decide +kernel
theorem dX7_seekWays_129 : decode cX7_seekWays 129 = .ok (.return_, 1) := by decide +kernel
theorem dX7_seekSecond_0 : decode cX7_seekSecond 0 = .ok (.aload_n 0, 1) := by decide +kernel
theorem dX7_seekSecond_1 : decode cX7_seekSecond 1 = .ok (.getfield 11, 3) := by decide +kernel
theorem dX7_seekSecond_4 : decode cX7_seekSecond 4 = .ok (.iconst 1, 1) := by decide +kernel
theorem dX7_seekSecond_5 : decode cX7_seekSecond 5 = .ok (.aaload, 1) := by decide +kernel
theorem dX7_seekSecond_6 : decode cX7_seekSecond 6 = .ok (.aload_n 0, 1) := by decide +kernel
theorem dX7_seekSecond_7 : decode cX7_seekSecond 7 = .ok (.getfield 21, 3) := by decide +kernel
theorem dX7_seekSecond_10 : decode cX7_seekSecond 10 = .ok (.getfield 33, 3) := by decide +kernel
theorem dX7_seekSecond_13 : decode cX7_seekSecond 13 = .ok (.invokevirtual 100, 3) := by decide +kernel
theorem dX7_seekSecond_16 : decode cX7_seekSecond 16 = .ok (.istore_n 3, 1) := by decide +kernel
theorem dX7_seekSecond_17 : decode cX7_seekSecond 17 = .ok (.iconst 0, 1) := by decide +kernel
theorem dX7_seekSecond_18 : decode cX7_seekSecond 18 = .ok (.istore 4, 2) := by decide +kernel
theorem dX7_seekSecond_20 : decode cX7_seekSecond 20 = .ok (.iload 4, 2) := by decide +kernel
theorem dX7_seekSecond_22 : decode cX7_seekSecond 22 = .ok (.bipush 24, 2) := by decide +kernel
theorem dX7_seekSecond_24 : decode cX7_seekSecond 24 = .ok (.if_icmp .ge 81, 3) := by decide +kernel
theorem dX7_seekSecond_27 : decode cX7_seekSecond 27 = .ok (.iload_n 3, 1) := by decide +kernel
theorem dX7_seekSecond_28 : decode cX7_seekSecond 28 = .ok (.iload 4, 2) := by decide +kernel
theorem dX7_seekSecond_30 : decode cX7_seekSecond 30 = .ok (.invokestatic 104, 3) := by decide +kernel
theorem dX7_seekSecond_33 : decode cX7_seekSecond 33 = .ok (.iconst (-1), 1) := by decide +kernel
theorem dX7_seekSecond_34 : decode cX7_seekSecond 34 = .ok (.ixor, 1) := by decide +kernel
theorem dX7_seekSecond_35 : decode cX7_seekSecond 35 = .ok (.iand, 1) := by decide +kernel
theorem dX7_seekSecond_36 : decode cX7_seekSecond 36 = .ok (.ifCond .ne 63, 3) := by decide +kernel
theorem dX7_seekSecond_39 : decode cX7_seekSecond 39 = .ok (.aload_n 0, 1) := by decide +kernel
theorem dX7_seekSecond_40 : decode cX7_seekSecond 40 = .ok (.iconst 1, 1) := by decide +kernel
theorem dX7_seekSecond_41 : decode cX7_seekSecond 41 = .ok (.iload_n 1, 1) := by decide +kernel
theorem dX7_seekSecond_42 : decode cX7_seekSecond 42 = .ok (.iload 4, 2) := by decide +kernel
theorem dX7_seekSecond_44 : decode cX7_seekSecond 44 = .ok (.invokevirtual 62, 3) := by decide +kernel
theorem dX7_seekSecond_47 : decode cX7_seekSecond 47 = .ok (.ifCond .eq 52, 3) := by decide +kernel
theorem dX7_seekSecond_50 : decode cX7_seekSecond 50 = .ok (.aload_n 0, 1) := by decide +kernel
theorem dX7_seekSecond_51 : decode cX7_seekSecond 51 = .ok (.getfield 11, 3) := by decide +kernel
theorem dX7_seekSecond_54 : decode cX7_seekSecond 54 = .ok (.iconst 2, 1) := by decide +kernel
theorem dX7_seekSecond_55 : decode cX7_seekSecond 55 = .ok (.aaload, 1) := by decide +kernel
theorem dX7_seekSecond_56 : decode cX7_seekSecond 56 = .ok (.aload_n 0, 1) := by decide +kernel
theorem dX7_seekSecond_57 : decode cX7_seekSecond 57 = .ok (.getfield 21, 3) := by decide +kernel
theorem dX7_seekSecond_60 : decode cX7_seekSecond 60 = .ok (.getfield 33, 3) := by decide +kernel
theorem dX7_seekSecond_63 : decode cX7_seekSecond 63 = .ok (.invokevirtual 92, 3) := by decide +kernel
theorem dX7_seekSecond_66 : decode cX7_seekSecond 66 = .ok (.ifCond .eq 33, 3) := by decide +kernel
theorem dX7_seekSecond_69 : decode cX7_seekSecond 69 = .ok (.aload_n 0, 1) := by decide +kernel
theorem dX7_seekSecond_70 : decode cX7_seekSecond 70 = .ok (.dup, 1) := by decide +kernel
theorem dX7_seekSecond_71 : decode cX7_seekSecond 71 = .ok (.getfield 83, 3) := by decide +kernel
theorem dX7_seekSecond_74 : decode cX7_seekSecond 74 = .ok (.iconst 1, 1) := by decide +kernel
theorem dX7_seekSecond_75 : decode cX7_seekSecond 75 = .ok (.iadd, 1) := by decide +kernel
theorem dX7_seekSecond_76 : decode cX7_seekSecond 76 = .ok (.putfield 83, 3) := by decide +kernel
theorem dX7_seekSecond_79 : decode cX7_seekSecond 79 = .ok (.aload_n 0, 1) := by decide +kernel
theorem dX7_seekSecond_80 : decode cX7_seekSecond 80 = .ok (.aload_n 0, 1) := by decide +kernel
theorem dX7_seekSecond_81 : decode cX7_seekSecond 81 = .ok (.getfield 89, 3) := by decide +kernel
theorem dX7_seekSecond_84 : decode cX7_seekSecond 84 = .ok (.iconst (-1), 1) := by decide +kernel
theorem dX7_seekSecond_85 : decode cX7_seekSecond 85 = .ok (.if_icmp .ne 7, 3) := by decide +kernel
theorem dX7_seekSecond_88 : decode cX7_seekSecond 88 = .ok (.iload_n 2, 1) := by decide +kernel
theorem dX7_seekSecond_89 : decode cX7_seekSecond 89 = .ok (.goto 7, 3) := by decide +kernel
theorem dX7_seekSecond_92 : decode cX7_seekSecond 92 = .ok (.aload_n 0, 1) := by decide +kernel
theorem dX7_seekSecond_93 : decode cX7_seekSecond 93 = .ok (.getfield 89, 3) := by decide +kernel
theorem dX7_seekSecond_96 : decode cX7_seekSecond 96 = .ok (.putfield 89, 3) := by decide +kernel
theorem dX7_seekSecond_99 : decode cX7_seekSecond 99 = .ok (.iinc 4 1, 3) := by decide +kernel
theorem dX7_seekSecond_102 : decode cX7_seekSecond 102 = .ok (.goto (-82), 3) := by decide +kernel
theorem dX7_seekSecond_105 : decode cX7_seekSecond 105 = .ok (.return_, 1) := by decide +kernel
theorem dX7_touched_0 : decode cX7_touched 0 = .ok (.iload_n 0, 1) := by decide +kernel
theorem dX7_touched_1 : decode cX7_touched 1 = .ok (.iconst 2, 1) := by decide +kernel
theorem dX7_touched_2 : decode cX7_touched 2 = .ok (.idiv, 1) := by decide +kernel
theorem dX7_touched_3 : decode cX7_touched 3 = .ok (.istore_n 1, 1) := by decide +kernel
theorem dX7_touched_4 : decode cX7_touched 4 = .ok (.iload_n 0, 1) := by decide +kernel
theorem dX7_touched_5 : decode cX7_touched 5 = .ok (.iconst 2, 1) := by decide +kernel
theorem dX7_touched_6 : decode cX7_touched 6 = .ok (.irem, 1) := by decide +kernel
theorem dX7_touched_7 : decode cX7_touched 7 = .ok (.iconst 1, 1) := by decide +kernel
theorem dX7_touched_8 : decode cX7_touched 8 = .ok (.if_icmp .ne 9, 3) := by decide +kernel
theorem dX7_touched_11 : decode cX7_touched 11 = .ok (.iload_n 1, 1) := by decide +kernel
theorem dX7_touched_12 : decode cX7_touched 12 = .ok (.iconst 1, 1) := by decide +kernel
theorem dX7_touched_13 : decode cX7_touched 13 = .ok (.iadd, 1) := by decide +kernel
theorem dX7_touched_14 : decode cX7_touched 14 = .ok (.goto 6, 3) := by decide +kernel
theorem dX7_touched_17 : decode cX7_touched 17 = .ok (.iload_n 1, 1) := by decide +kernel
theorem dX7_touched_18 : decode cX7_touched 18 = .ok (.iconst 1, 1) := by decide +kernel
theorem dX7_touched_19 : decode cX7_touched 19 = .ok (.isub, 1) := by decide +kernel
theorem dX7_touched_20 : decode cX7_touched 20 = .ok (.istore_n 2, 1) := by decide +kernel
theorem dX7_touched_21 : decode cX7_touched 21 = .ok (.iconst 1, 1) := by decide +kernel
theorem dX7_touched_22 : decode cX7_touched 22 = .ok (.iload_n 1, 1) := by decide +kernel
theorem dX7_touched_23 : decode cX7_touched 23 = .ok (.ishl, 1) := by decide +kernel
theorem dX7_touched_24 : decode cX7_touched 24 = .ok (.iconst 1, 1) := by decide +kernel
theorem dX7_touched_25 : decode cX7_touched 25 = .ok (.iload_n 2, 1) := by decide +kernel
theorem dX7_touched_26 : decode cX7_touched 26 = .ok (.ifCond .ge 8, 3) := by decide +kernel
theorem dX7_touched_29 : decode cX7_touched 29 = .ok (.bipush 12, 2) := by decide +kernel
theorem dX7_touched_31 : decode cX7_touched 31 = .ok (.goto 4, 3) := by decide +kernel
theorem dX7_touched_34 : decode cX7_touched 34 = .ok (.iload_n 2, 1) := by decide +kernel
theorem dX7_touched_35 : decode cX7_touched 35 = .ok (.ishl, 1) := by decide +kernel
theorem dX7_touched_36 : decode cX7_touched 36 = .ok (.ior, 1) := by decide +kernel
theorem dX7_touched_37 : decode cX7_touched 37 = .ok (.ireturn, 1) := by decide +kernel
theorem dX7_lowestFirst_0 : decode cX7_lowestFirst 0 = .ok (.aload_n 0, 1) := by decide +kernel
theorem dX7_lowestFirst_1 : decode cX7_lowestFirst 1 = .ok (.getfield 86, 3) := by decide +kernel
theorem dX7_lowestFirst_4 : decode cX7_lowestFirst 4 = .ok (.iconst (-1), 1) := by decide +kernel
theorem dX7_lowestFirst_5 : decode cX7_lowestFirst 5 = .ok (.if_icmp .ne 10, 3) := by decide +kernel
theorem dX7_lowestFirst_8 : decode cX7_lowestFirst 8 = .ok (.aload_n 0, 1) := by decide +kernel
theorem dX7_lowestFirst_9 : decode cX7_lowestFirst 9 = .ok (.getfield 89, 3) := by decide +kernel
theorem dX7_lowestFirst_12 : decode cX7_lowestFirst 12 = .ok (.goto 7, 3) := by decide +kernel
theorem dX7_lowestFirst_15 : decode cX7_lowestFirst 15 = .ok (.aload_n 0, 1) := by decide +kernel
theorem dX7_lowestFirst_16 : decode cX7_lowestFirst 16 = .ok (.getfield 86, 3) := by decide +kernel
theorem dX7_lowestFirst_19 : decode cX7_lowestFirst 19 = .ok (.ireturn, 1) := by decide +kernel
theorem dX8_init_0 : decode cX8_init 0 = .ok (.aload_n 0, 1) := by decide +kernel
theorem dX8_init_1 : decode cX8_init 1 = .ok (.invokespecial 3, 3) := by decide +kernel
theorem dX8_init_4 : decode cX8_init 4 = .ok (.aload_n 0, 1) := by decide +kernel
theorem dX8_init_5 : decode cX8_init 5 = .ok (.new 9, 3) := by decide +kernel
theorem dX8_init_8 : decode cX8_init 8 = .ok (.dup, 1) := by decide +kernel
theorem dX8_init_9 : decode cX8_init 9 = .ok (.invokespecial 11, 3) := by decide +kernel
theorem dX8_init_12 : decode cX8_init 12 = .ok (.putfield 12, 3) := by decide +kernel
theorem dX8_init_15 : decode cX8_init 15 = .ok (.aload_n 0, 1) := by decide +kernel
theorem dX8_init_16 : decode cX8_init 16 = .ok (.bipush 30, 2) := by decide +kernel
theorem dX8_init_18 : decode cX8_init 18 = .ok (.anewarray 9, 3) := by decide +kernel
theorem dX8_init_21 : decode cX8_init 21 = .ok (.putfield 18, 3) := by decide +kernel
theorem dX8_init_24 : decode cX8_init 24 = .ok (.aload_n 0, 1) := by decide +kernel
theorem dX8_init_25 : decode cX8_init 25 = .ok (.iconst 4, 1) := by decide +kernel
theorem dX8_init_26 : decode cX8_init 26 = .ok (.newarray .int, 2) := by decide +kernel
theorem dX8_init_28 : decode cX8_init 28 = .ok (.putfield 22, 3) := by decide +kernel
theorem dX8_init_31 : decode cX8_init 31 = .ok (.aload_n 0, 1) := by decide +kernel
theorem dX8_init_32 : decode cX8_init 32 = .ok (.iconst 4, 1) := by decide +kernel
theorem dX8_init_33 : decode cX8_init 33 = .ok (.anewarray 26, 3) := by decide +kernel
theorem dX8_init_36 : decode cX8_init 36 = .ok (.putfield 28, 3) := by decide +kernel
theorem dX8_init_39 : decode cX8_init 39 = .ok (.aload_n 0, 1) := by decide +kernel
theorem dX8_init_40 : decode cX8_init 40 = .ok (.iconst (-1), 1) := by decide +kernel
theorem dX8_init_41 : decode cX8_init 41 = .ok (.putfield 32, 3) := by decide +kernel
theorem dX8_init_44 : decode cX8_init 44 = .ok (.aload_n 0, 1) := by decide +kernel
theorem dX8_init_45 : decode cX8_init 45 = .ok (.bipush 24, 2) := by decide +kernel
theorem dX8_init_47 : decode cX8_init 47 = .ok (.newarray .int, 2) := by decide +kernel
theorem dX8_init_49 : decode cX8_init 49 = .ok (.putfield 36, 3) := by decide +kernel
theorem dX8_init_52 : decode cX8_init 52 = .ok (.iconst 0, 1) := by decide +kernel
theorem dX8_init_53 : decode cX8_init 53 = .ok (.istore_n 1, 1) := by decide +kernel
theorem dX8_init_54 : decode cX8_init 54 = .ok (.iload_n 1, 1) := by decide +kernel
theorem dX8_init_55 : decode cX8_init 55 = .ok (.bipush 30, 2) := by decide +kernel
theorem dX8_init_57 : decode cX8_init 57 = .ok (.if_icmp .ge 22, 3) := by decide +kernel
theorem dX8_init_60 : decode cX8_init 60 = .ok (.aload_n 0, 1) := by decide +kernel
theorem dX8_init_61 : decode cX8_init 61 = .ok (.getfield 18, 3) := by decide +kernel
theorem dX8_init_64 : decode cX8_init 64 = .ok (.iload_n 1, 1) := by decide +kernel
theorem dX8_init_65 : decode cX8_init 65 = .ok (.new 9, 3) := by decide +kernel
theorem dX8_init_68 : decode cX8_init 68 = .ok (.dup, 1) := by decide +kernel
theorem dX8_init_69 : decode cX8_init 69 = .ok (.invokespecial 11, 3) := by decide +kernel
theorem dX8_init_72 : decode cX8_init 72 = .ok (.aastore, 1) := by decide +kernel
theorem dX8_init_73 : decode cX8_init 73 = .ok (.iinc 1 1, 3) := by decide +kernel
theorem dX8_init_76 : decode cX8_init 76 = .ok (.goto (-22), 3) := by decide +kernel
theorem dX8_init_79 : decode cX8_init 79 = .ok (.return_, 1) := by decide +kernel
theorem dX8_becomes_0 : decode cX8_becomes 0 = .ok (.aload_n 0, 1) := by decide +kernel
theorem dX8_becomes_1 : decode cX8_becomes 1 = .ok (.getfield 12, 3) := by decide +kernel
theorem dX8_becomes_4 : decode cX8_becomes 4 = .ok (.aload_n 1, 1) := by decide +kernel
theorem dX8_becomes_5 : decode cX8_becomes 5 = .ok (.getfield 12, 3) := by decide +kernel
theorem dX8_becomes_8 : decode cX8_becomes 8 = .ok (.invokevirtual 39, 3) := by decide +kernel
theorem dX8_becomes_11 : decode cX8_becomes 11 = .ok (.iconst 0, 1) := by decide +kernel
theorem dX8_becomes_12 : decode cX8_becomes 12 = .ok (.istore_n 2, 1) := by decide +kernel
theorem dX8_becomes_13 : decode cX8_becomes 13 = .ok (.iload_n 2, 1) := by decide +kernel
theorem dX8_becomes_14 : decode cX8_becomes 14 = .ok (.bipush 30, 2) := by decide +kernel
theorem dX8_becomes_16 : decode cX8_becomes 16 = .ok (.if_icmp .ge 24, 3) := by decide +kernel
theorem dX8_becomes_19 : decode cX8_becomes 19 = .ok (.aload_n 0, 1) := by decide +kernel
theorem dX8_becomes_20 : decode cX8_becomes 20 = .ok (.getfield 18, 3) := by decide +kernel
theorem dX8_becomes_23 : decode cX8_becomes 23 = .ok (.iload_n 2, 1) := by decide +kernel
theorem dX8_becomes_24 : decode cX8_becomes 24 = .ok (.aaload, 1) := by decide +kernel
theorem dX8_becomes_25 : decode cX8_becomes 25 = .ok (.aload_n 1, 1) := by decide +kernel
theorem dX8_becomes_26 : decode cX8_becomes 26 = .ok (.getfield 18, 3) := by decide +kernel
theorem dX8_becomes_29 : decode cX8_becomes 29 = .ok (.iload_n 2, 1) := by decide +kernel
theorem dX8_becomes_30 : decode cX8_becomes 30 = .ok (.aaload, 1) := by decide +kernel
theorem dX8_becomes_31 : decode cX8_becomes 31 = .ok (.invokevirtual 39, 3) := by decide +kernel
theorem dX8_becomes_34 : decode cX8_becomes 34 = .ok (.iinc 2 1, 3) := by decide +kernel
theorem dX8_becomes_37 : decode cX8_becomes 37 = .ok (.goto (-24), 3) := by decide +kernel
theorem dX8_becomes_40 : decode cX8_becomes 40 = .ok (.aload_n 0, 1) := by decide +kernel
theorem dX8_becomes_41 : decode cX8_becomes 41 = .ok (.aload_n 1, 1) := by decide +kernel
theorem dX8_becomes_42 : decode cX8_becomes 42 = .ok (.getfield 43, 3) := by decide +kernel
theorem dX8_becomes_45 : decode cX8_becomes 45 = .ok (.putfield 43, 3) := by decide +kernel
theorem dX8_becomes_48 : decode cX8_becomes 48 = .ok (.aload_n 0, 1) := by decide +kernel
theorem dX8_becomes_49 : decode cX8_becomes 49 = .ok (.aload_n 1, 1) := by decide +kernel
theorem dX8_becomes_50 : decode cX8_becomes 50 = .ok (.getfield 46, 3) := by decide +kernel
theorem dX8_becomes_53 : decode cX8_becomes 53 = .ok (.putfield 46, 3) := by decide +kernel
theorem dX8_becomes_56 : decode cX8_becomes 56 = .ok (.aload_n 1, 1) := by decide +kernel
theorem dX8_becomes_57 : decode cX8_becomes 57 = .ok (.getfield 22, 3) := by decide +kernel
theorem dX8_becomes_60 : decode cX8_becomes 60 = .ok (.iconst 0, 1) := by decide +kernel
theorem dX8_becomes_61 : decode cX8_becomes 61 = .ok (.aload_n 0, 1) := by decide +kernel
theorem dX8_becomes_62 : decode cX8_becomes 62 = .ok (.getfield 22, 3) := by decide +kernel
theorem dX8_becomes_65 : decode cX8_becomes 65 = .ok (.iconst 0, 1) := by decide +kernel
theorem dX8_becomes_66 : decode cX8_becomes 66 = .ok (.iconst 4, 1) := by decide +kernel
theorem dX8_becomes_67 : decode cX8_becomes 67 = .ok (.invokestatic 49, 3) := by decide +kernel
theorem dX8_becomes_70 : decode cX8_becomes 70 = .ok (.aload_n 0, 1) := by decide +kernel
theorem dX8_becomes_71 : decode cX8_becomes 71 = .ok (.aload_n 1, 1) := by decide +kernel
theorem dX8_becomes_72 : decode cX8_becomes 72 = .ok (.getfield 55, 3) := by decide +kernel
theorem dX8_becomes_75 : decode cX8_becomes 75 = .ok (.putfield 55, 3) := by decide +kernel
theorem dX8_becomes_78 : decode cX8_becomes 78 = .ok (.aload_n 0, 1) := by decide +kernel
theorem dX8_becomes_79 : decode cX8_becomes 79 = .ok (.aload_n 1, 1) := by decide +kernel
theorem dX8_becomes_80 : decode cX8_becomes 80 = .ok (.getfield 58, 3) := by decide +kernel
theorem dX8_becomes_83 : decode cX8_becomes 83 = .ok (.putfield 58, 3) := by decide +kernel
theorem dX8_becomes_86 : decode cX8_becomes 86 = .ok (.iconst 0, 1) := by decide +kernel
theorem dX8_becomes_87 : decode cX8_becomes 87 = .ok (.istore_n 2, 1) := by decide +kernel
theorem dX8_becomes_88 : decode cX8_becomes 88 = .ok (.iload_n 2, 1) := by decide +kernel
theorem dX8_becomes_89 : decode cX8_becomes 89 = .ok (.iconst 4, 1) := by decide +kernel
theorem dX8_becomes_90 : decode cX8_becomes 90 = .ok (.if_icmp .ge 21, 3) := by decide +kernel
theorem dX8_becomes_93 : decode cX8_becomes 93 = .ok (.aload_n 0, 1) := by decide +kernel
theorem dX8_becomes_94 : decode cX8_becomes 94 = .ok (.getfield 28, 3) := by decide +kernel
theorem dX8_becomes_97 : decode cX8_becomes 97 = .ok (.iload_n 2, 1) := by decide +kernel
theorem dX8_becomes_98 : decode cX8_becomes 98 = .ok (.aload_n 1, 1) := by decide +kernel
theorem dX8_becomes_99 : decode cX8_becomes 99 = .ok (.getfield 28, 3) := by decide +kernel
theorem dX8_becomes_102 : decode cX8_becomes 102 = .ok (.iload_n 2, 1) := by decide +kernel
theorem dX8_becomes_103 : decode cX8_becomes 103 = .ok (.aaload, 1) := by decide +kernel
theorem dX8_becomes_104 : decode cX8_becomes 104 = .ok (.aastore, 1) := by decide +kernel
theorem dX8_becomes_105 : decode cX8_becomes 105 = .ok (.iinc 2 1, 3) := by decide +kernel
theorem dX8_becomes_108 : decode cX8_becomes 108 = .ok (.goto (-20), 3) := by decide +kernel
theorem dX8_becomes_111 : decode cX8_becomes 111 = .ok (.aload_n 0, 1) := by decide +kernel
theorem dX8_becomes_112 : decode cX8_becomes 112 = .ok (.aload_n 1, 1) := by decide +kernel
theorem dX8_becomes_113 : decode cX8_becomes 113 = .ok (.getfield 61, 3) := by decide +kernel
theorem dX8_becomes_116 : decode cX8_becomes 116 = .ok (.putfield 61, 3) := by decide +kernel
theorem dX8_becomes_119 : decode cX8_becomes 119 = .ok (.aload_n 0, 1) := by decide +kernel
theorem dX8_becomes_120 : decode cX8_becomes 120 = .ok (.aload_n 1, 1) := by decide +kernel
theorem dX8_becomes_121 : decode cX8_becomes 121 = .ok (.getfield 32, 3) := by decide +kernel
theorem dX8_becomes_124 : decode cX8_becomes 124 = .ok (.putfield 32, 3) := by decide +kernel
theorem dX8_becomes_127 : decode cX8_becomes 127 = .ok (.aload_n 1, 1) := by decide +kernel
theorem dX8_becomes_128 : decode cX8_becomes 128 = .ok (.getfield 36, 3) := by decide +kernel
theorem dX8_becomes_131 : decode cX8_becomes 131 = .ok (.iconst 0, 1) := by decide +kernel
theorem dX8_becomes_132 : decode cX8_becomes 132 = .ok (.aload_n 0, 1) := by decide +kernel
theorem dX8_becomes_133 : decode cX8_becomes 133 = .ok (.getfield 36, 3) := by decide +kernel
theorem dX8_becomes_136 : decode cX8_becomes 136 = .ok (.iconst 0, 1) := by decide +kernel
theorem dX8_becomes_137 : decode cX8_becomes 137 = .ok (.aload_n 0, 1) := by decide +kernel
theorem dX8_becomes_138 : decode cX8_becomes 138 = .ok (.getfield 36, 3) := by decide +kernel
theorem dX8_becomes_141 : decode cX8_becomes 141 = .ok (.arraylength, 1) := by decide +kernel
theorem dX8_becomes_142 : decode cX8_becomes 142 = .ok (.invokestatic 49, 3) := by decide +kernel
theorem dX8_becomes_145 : decode cX8_becomes 145 = .ok (.aload_n 0, 1) := by decide +kernel
theorem dX8_becomes_146 : decode cX8_becomes 146 = .ok (.aload_n 1, 1) := by decide +kernel
theorem dX8_becomes_147 : decode cX8_becomes 147 = .ok (.getfield 64, 3) := by decide +kernel
theorem dX8_becomes_150 : decode cX8_becomes 150 = .ok (.putfield 64, 3) := by decide +kernel
theorem dX8_becomes_153 : decode cX8_becomes 153 = .ok (.return_, 1) := by decide +kernel
theorem dX8_keepStep_0 : decode cX8_keepStep 0 = .ok (.aload_n 0, 1) := by decide +kernel
theorem dX8_keepStep_1 : decode cX8_keepStep 1 = .ok (.getfield 18, 3) := by decide +kernel
theorem dX8_keepStep_4 : decode cX8_keepStep 4 = .ok (.aload_n 0, 1) := by decide +kernel
theorem dX8_keepStep_5 : decode cX8_keepStep 5 = .ok (.getfield 43, 3) := by decide +kernel
theorem dX8_keepStep_8 : decode cX8_keepStep 8 = .ok (.aaload, 1) := by decide +kernel
theorem dX8_keepStep_9 : decode cX8_keepStep 9 = .ok (.aload_n 0, 1) := by decide +kernel
theorem dX8_keepStep_10 : decode cX8_keepStep 10 = .ok (.getfield 12, 3) := by decide +kernel
theorem dX8_keepStep_13 : decode cX8_keepStep 13 = .ok (.invokevirtual 39, 3) := by decide +kernel
theorem dX8_keepStep_16 : decode cX8_keepStep 16 = .ok (.aload_n 0, 1) := by decide +kernel
theorem dX8_keepStep_17 : decode cX8_keepStep 17 = .ok (.aload_n 0, 1) := by decide +kernel
theorem dX8_keepStep_18 : decode cX8_keepStep 18 = .ok (.getfield 43, 3) := by decide +kernel
theorem dX8_keepStep_21 : decode cX8_keepStep 21 = .ok (.iconst 1, 1) := by decide +kernel
theorem dX8_keepStep_22 : decode cX8_keepStep 22 = .ok (.iadd, 1) := by decide +kernel
theorem dX8_keepStep_23 : decode cX8_keepStep 23 = .ok (.bipush 30, 2) := by decide +kernel
theorem dX8_keepStep_25 : decode cX8_keepStep 25 = .ok (.irem, 1) := by decide +kernel
theorem dX8_keepStep_26 : decode cX8_keepStep 26 = .ok (.putfield 43, 3) := by decide +kernel
theorem dX8_keepStep_29 : decode cX8_keepStep 29 = .ok (.aload_n 0, 1) := by decide +kernel
theorem dX8_keepStep_30 : decode cX8_keepStep 30 = .ok (.aload_n 0, 1) := by decide +kernel
theorem dX8_keepStep_31 : decode cX8_keepStep 31 = .ok (.getfield 46, 3) := by decide +kernel
theorem dX8_keepStep_34 : decode cX8_keepStep 34 = .ok (.iconst 1, 1) := by decide +kernel
theorem dX8_keepStep_35 : decode cX8_keepStep 35 = .ok (.iadd, 1) := by decide +kernel
theorem dX8_keepStep_36 : decode cX8_keepStep 36 = .ok (.bipush 30, 2) := by decide +kernel
theorem dX8_keepStep_38 : decode cX8_keepStep 38 = .ok (.invokestatic 67, 3) := by decide +kernel
theorem dX8_keepStep_41 : decode cX8_keepStep 41 = .ok (.putfield 46, 3) := by decide +kernel
theorem dX8_keepStep_44 : decode cX8_keepStep 44 = .ok (.return_, 1) := by decide +kernel
theorem dX8_takeBack_0 : decode cX8_takeBack 0 = .ok (.aload_n 0, 1) := by decide +kernel
theorem dX8_takeBack_1 : decode cX8_takeBack 1 = .ok (.getfield 46, 3) := by decide +kernel
theorem dX8_takeBack_4 : decode cX8_takeBack 4 = .ok (.ifCond .ne 5, 3) := by decide +kernel
theorem dX8_takeBack_7 : decode cX8_takeBack 7 = .ok (.iconst (-1), 1) := by decide +kernel
theorem dX8_takeBack_8 : decode cX8_takeBack 8 = .ok (.ireturn, 1) := by decide +kernel
theorem dX8_takeBack_9 : decode cX8_takeBack 9 = .ok (.aload_n 0, 1) := by decide +kernel
theorem dX8_takeBack_10 : decode cX8_takeBack 10 = .ok (.aload_n 0, 1) := by decide +kernel
theorem dX8_takeBack_11 : decode cX8_takeBack 11 = .ok (.getfield 43, 3) := by decide +kernel
theorem dX8_takeBack_14 : decode cX8_takeBack 14 = .ok (.bipush 30, 2) := by decide +kernel
theorem dX8_takeBack_16 : decode cX8_takeBack 16 = .ok (.iadd, 1) := by decide +kernel
theorem dX8_takeBack_17 : decode cX8_takeBack 17 = .ok (.iconst 1, 1) := by decide +kernel
theorem dX8_takeBack_18 : decode cX8_takeBack 18 = .ok (.isub, 1) := by decide +kernel
theorem dX8_takeBack_19 : decode cX8_takeBack 19 = .ok (.bipush 30, 2) := by decide +kernel
theorem dX8_takeBack_21 : decode cX8_takeBack 21 = .ok (.irem, 1) := by decide +kernel
theorem dX8_takeBack_22 : decode cX8_takeBack 22 = .ok (.putfield 43, 3) := by decide +kernel
theorem dX8_takeBack_25 : decode cX8_takeBack 25 = .ok (.aload_n 0, 1) := by decide +kernel
theorem dX8_takeBack_26 : decode cX8_takeBack 26 = .ok (.getfield 12, 3) := by decide +kernel
theorem dX8_takeBack_29 : decode cX8_takeBack 29 = .ok (.aload_n 0, 1) := by decide +kernel
theorem dX8_takeBack_30 : decode cX8_takeBack 30 = .ok (.getfield 18, 3) := by decide +kernel
theorem dX8_takeBack_33 : decode cX8_takeBack 33 = .ok (.aload_n 0, 1) := by decide +kernel
theorem dX8_takeBack_34 : decode cX8_takeBack 34 = .ok (.getfield 43, 3) := by decide +kernel
theorem dX8_takeBack_37 : decode cX8_takeBack 37 = .ok (.aaload, 1) := by decide +kernel
theorem dX8_takeBack_38 : decode cX8_takeBack 38 = .ok (.invokevirtual 39, 3) := by decide +kernel
theorem dX8_takeBack_41 : decode cX8_takeBack 41 = .ok (.aload_n 0, 1) := by decide +kernel
theorem dX8_takeBack_42 : decode cX8_takeBack 42 = .ok (.dup, 1) := by decide +kernel
theorem dX8_takeBack_43 : decode cX8_takeBack 43 = .ok (.getfield 46, 3) := by decide +kernel
theorem dX8_takeBack_46 : decode cX8_takeBack 46 = .ok (.iconst 1, 1) := by decide +kernel
theorem dX8_takeBack_47 : decode cX8_takeBack 47 = .ok (.isub, 1) := by decide +kernel
theorem dX8_takeBack_48 : decode cX8_takeBack 48 = .ok (.putfield 46, 3) := by decide +kernel
theorem dX8_takeBack_51 : decode cX8_takeBack 51 = .ok (.aload_n 0, 1) := by decide +kernel
theorem dX8_takeBack_52 : decode cX8_takeBack 52 = .ok (.getfield 46, 3) := by decide +kernel
theorem dX8_takeBack_55 : decode cX8_takeBack 55 = .ok (.ireturn, 1) := by decide +kernel
theorem dX8_tellDough_0 : decode cX8_tellDough 0 = .ok (.aload_n 0, 1) := by decide +kernel
theorem dX8_tellDough_1 : decode cX8_tellDough 1 = .ok (.getfield 12, 3) := by decide +kernel
theorem dX8_tellDough_4 : decode cX8_tellDough 4 = .ok (.getfield 73, 3) := by decide +kernel
theorem dX8_tellDough_7 : decode cX8_tellDough 7 = .ok (.iload_n 1, 1) := by decide +kernel
theorem dX8_tellDough_8 : decode cX8_tellDough 8 = .ok (.iload_n 2, 1) := by decide +kernel
theorem dX8_tellDough_9 : decode cX8_tellDough 9 = .ok (.iastore, 1) := by decide +kernel
theorem dX8_tellDough_10 : decode cX8_tellDough 10 = .ok (.iconst 0, 1) := by decide +kernel
theorem dX8_tellDough_11 : decode cX8_tellDough 11 = .ok (.istore_n 3, 1) := by decide +kernel
theorem dX8_tellDough_12 : decode cX8_tellDough 12 = .ok (.iload_n 3, 1) := by decide +kernel
theorem dX8_tellDough_13 : decode cX8_tellDough 13 = .ok (.bipush 30, 2) := by decide +kernel
theorem dX8_tellDough_15 : decode cX8_tellDough 15 = .ok (.if_icmp .ge 21, 3) := by decide +kernel
theorem dX8_tellDough_18 : decode cX8_tellDough 18 = .ok (.aload_n 0, 1) := by decide +kernel
theorem dX8_tellDough_19 : decode cX8_tellDough 19 = .ok (.getfield 18, 3) := by decide +kernel
theorem dX8_tellDough_22 : decode cX8_tellDough 22 = .ok (.iload_n 3, 1) := by decide +kernel
theorem dX8_tellDough_23 : decode cX8_tellDough 23 = .ok (.aaload, 1) := by decide +kernel
theorem dX8_tellDough_24 : decode cX8_tellDough 24 = .ok (.getfield 73, 3) := by decide +kernel
theorem dX8_tellDough_27 : decode cX8_tellDough 27 = .ok (.iload_n 1, 1) := by decide +kernel
theorem dX8_tellDough_28 : decode cX8_tellDough 28 = .ok (.iload_n 2, 1) := by decide +kernel
theorem dX8_tellDough_29 : decode cX8_tellDough 29 = .ok (.iastore, 1) := by decide +kernel
theorem dX8_tellDough_30 : decode cX8_tellDough 30 = .ok (.iinc 3 1, 3) := by decide +kernel
theorem dX8_tellDough_33 : decode cX8_tellDough 33 = .ok (.goto (-21), 3) := by decide +kernel
theorem dX8_tellDough_36 : decode cX8_tellDough 36 = .ok (.return_, 1) := by decide +kernel
theorem dX8_tellTown_0 : decode cX8_tellTown 0 = .ok (.aload_n 0, 1) := by decide +kernel
theorem dX8_tellTown_1 : decode cX8_tellTown 1 = .ok (.getfield 58, 3) := by decide +kernel
theorem dX8_tellTown_4 : decode cX8_tellTown 4 = .ok (.bipush 6, 2) := by decide +kernel
theorem dX8_tellTown_6 : decode cX8_tellTown 6 = .ok (.if_icmp .lt 4, 3) := by decide +kernel
theorem dX8_tellTown_9 : decode cX8_tellTown 9 = .ok (.return_, 1) := by decide +kernel
theorem dX8_tellTown_10 : decode cX8_tellTown 10 = .ok (.aload_n 0, 1) := by decide +kernel
theorem dX8_tellTown_11 : decode cX8_tellTown 11 = .ok (.getfield 12, 3) := by decide +kernel
theorem dX8_tellTown_14 : decode cX8_tellTown 14 = .ok (.getfield 76, 3) := by decide +kernel
theorem dX8_tellTown_17 : decode cX8_tellTown 17 = .ok (.aload_n 0, 1) := by decide +kernel
theorem dX8_tellTown_18 : decode cX8_tellTown 18 = .ok (.getfield 58, 3) := by decide +kernel
theorem dX8_tellTown_21 : decode cX8_tellTown 21 = .ok (.iload_n 1, 1) := by decide +kernel
theorem dX8_tellTown_22 : decode cX8_tellTown 22 = .ok (.iastore, 1) := by decide +kernel
theorem dX8_tellTown_23 : decode cX8_tellTown 23 = .ok (.iconst 0, 1) := by decide +kernel
theorem dX8_tellTown_24 : decode cX8_tellTown 24 = .ok (.istore_n 2, 1) := by decide +kernel
theorem dX8_tellTown_25 : decode cX8_tellTown 25 = .ok (.iload_n 2, 1) := by decide +kernel
theorem dX8_tellTown_26 : decode cX8_tellTown 26 = .ok (.bipush 30, 2) := by decide +kernel
theorem dX8_tellTown_28 : decode cX8_tellTown 28 = .ok (.if_icmp .ge 24, 3) := by decide +kernel
theorem dX8_tellTown_31 : decode cX8_tellTown 31 = .ok (.aload_n 0, 1) := by decide +kernel
theorem dX8_tellTown_32 : decode cX8_tellTown 32 = .ok (.getfield 18, 3) := by decide +kernel
theorem dX8_tellTown_35 : decode cX8_tellTown 35 = .ok (.iload_n 2, 1) := by decide +kernel
theorem dX8_tellTown_36 : decode cX8_tellTown 36 = .ok (.aaload, 1) := by decide +kernel
theorem dX8_tellTown_37 : decode cX8_tellTown 37 = .ok (.getfield 76, 3) := by decide +kernel
theorem dX8_tellTown_40 : decode cX8_tellTown 40 = .ok (.aload_n 0, 1) := by decide +kernel
theorem dX8_tellTown_41 : decode cX8_tellTown 41 = .ok (.getfield 58, 3) := by decide +kernel
theorem dX8_tellTown_44 : decode cX8_tellTown 44 = .ok (.iload_n 1, 1) := by decide +kernel
theorem dX8_tellTown_45 : decode cX8_tellTown 45 = .ok (.iastore, 1) := by decide +kernel
theorem dX8_tellTown_46 : decode cX8_tellTown 46 = .ok (.iinc 2 1, 3) := by decide +kernel
theorem dX8_tellTown_49 : decode cX8_tellTown 49 = .ok (.goto (-24), 3) := by decide +kernel
theorem dX8_tellTown_52 : decode cX8_tellTown 52 = .ok (.aload_n 0, 1) := by decide +kernel
theorem dX8_tellTown_53 : decode cX8_tellTown 53 = .ok (.dup, 1) := by decide +kernel
theorem dX8_tellTown_54 : decode cX8_tellTown 54 = .ok (.getfield 58, 3) := by decide +kernel
theorem dX8_tellTown_57 : decode cX8_tellTown 57 = .ok (.iconst 1, 1) := by decide +kernel
theorem dX8_tellTown_58 : decode cX8_tellTown 58 = .ok (.iadd, 1) := by decide +kernel
theorem dX8_tellTown_59 : decode cX8_tellTown 59 = .ok (.putfield 58, 3) := by decide +kernel
theorem dX8_tellTown_62 : decode cX8_tellTown 62 = .ok (.return_, 1) := by decide +kernel
theorem dX8_tellSaid_0 : decode cX8_tellSaid 0 = .ok (.iconst 3, 1) := by decide +kernel
theorem dX8_tellSaid_1 : decode cX8_tellSaid 1 = .ok (.aload_n 0, 1) := by decide +kernel
theorem dX8_tellSaid_2 : decode cX8_tellSaid 2 = .ok (.getfield 64, 3) := by decide +kernel
theorem dX8_tellSaid_5 : decode cX8_tellSaid 5 = .ok (.imul, 1) := by decide +kernel
theorem dX8_tellSaid_6 : decode cX8_tellSaid 6 = .ok (.istore 4, 2) := by decide +kernel
theorem dX8_tellSaid_8 : decode cX8_tellSaid 8 = .ok (.iload 4, 2) := by decide +kernel
theorem dX8_tellSaid_10 : decode cX8_tellSaid 10 = .ok (.iconst 2, 1) := by decide +kernel
theorem dX8_tellSaid_11 : decode cX8_tellSaid 11 = .ok (.iadd, 1) := by decide +kernel
theorem dX8_tellSaid_12 : decode cX8_tellSaid 12 = .ok (.aload_n 0, 1) := by decide +kernel
theorem dX8_tellSaid_13 : decode cX8_tellSaid 13 = .ok (.getfield 36, 3) := by decide +kernel
theorem dX8_tellSaid_16 : decode cX8_tellSaid 16 = .ok (.arraylength, 1) := by decide +kernel
theorem dX8_tellSaid_17 : decode cX8_tellSaid 17 = .ok (.if_icmp .lt 4, 3) := by decide +kernel
theorem dX8_tellSaid_20 : decode cX8_tellSaid 20 = .ok (.return_, 1) := by decide +kernel
theorem dX8_tellSaid_21 : decode cX8_tellSaid 21 = .ok (.aload_n 0, 1) := by decide +kernel
theorem dX8_tellSaid_22 : decode cX8_tellSaid 22 = .ok (.getfield 36, 3) := by decide +kernel
theorem dX8_tellSaid_25 : decode cX8_tellSaid 25 = .ok (.iload 4, 2) := by decide +kernel
theorem dX8_tellSaid_27 : decode cX8_tellSaid 27 = .ok (.iload_n 1, 1) := by decide +kernel
theorem dX8_tellSaid_28 : decode cX8_tellSaid 28 = .ok (.iastore, 1) := by decide +kernel
theorem dX8_tellSaid_29 : decode cX8_tellSaid 29 = .ok (.aload_n 0, 1) := by decide +kernel
theorem dX8_tellSaid_30 : decode cX8_tellSaid 30 = .ok (.getfield 36, 3) := by decide +kernel
theorem dX8_tellSaid_33 : decode cX8_tellSaid 33 = .ok (.iload 4, 2) := by decide +kernel
theorem dX8_tellSaid_35 : decode cX8_tellSaid 35 = .ok (.iconst 1, 1) := by decide +kernel
theorem dX8_tellSaid_36 : decode cX8_tellSaid 36 = .ok (.iadd, 1) := by decide +kernel
theorem dX8_tellSaid_37 : decode cX8_tellSaid 37 = .ok (.iload_n 2, 1) := by decide +kernel
theorem dX8_tellSaid_38 : decode cX8_tellSaid 38 = .ok (.iastore, 1) := by decide +kernel
theorem dX8_tellSaid_39 : decode cX8_tellSaid 39 = .ok (.aload_n 0, 1) := by decide +kernel
theorem dX8_tellSaid_40 : decode cX8_tellSaid 40 = .ok (.getfield 36, 3) := by decide +kernel
theorem dX8_tellSaid_43 : decode cX8_tellSaid 43 = .ok (.iload 4, 2) := by decide +kernel
theorem dX8_tellSaid_45 : decode cX8_tellSaid 45 = .ok (.iconst 2, 1) := by decide +kernel
theorem dX8_tellSaid_46 : decode cX8_tellSaid 46 = .ok (.iadd, 1) := by decide +kernel
theorem dX8_tellSaid_47 : decode cX8_tellSaid 47 = .ok (.iload_n 3, 1) := by decide +kernel
theorem dX8_tellSaid_48 : decode cX8_tellSaid 48 = .ok (.iastore, 1) := by decide +kernel
theorem dX8_tellSaid_49 : decode cX8_tellSaid 49 = .ok (.aload_n 0, 1) := by decide +kernel
theorem dX8_tellSaid_50 : decode cX8_tellSaid 50 = .ok (.dup, 1) := by decide +kernel
theorem dX8_tellSaid_51 : decode cX8_tellSaid 51 = .ok (.getfield 64, 3) := by decide +kernel
theorem dX8_tellSaid_54 : decode cX8_tellSaid 54 = .ok (.iconst 1, 1) := by decide +kernel
theorem dX8_tellSaid_55 : decode cX8_tellSaid 55 = .ok (.iadd, 1) := by decide +kernel
theorem dX8_tellSaid_56 : decode cX8_tellSaid 56 = .ok (.putfield 64, 3) := by decide +kernel
theorem dX8_tellSaid_59 : decode cX8_tellSaid 59 = .ok (.return_, 1) := by decide +kernel
theorem dX8_movesOf_0 : decode cX8_movesOf 0 = .ok (.iload_n 1, 1) := by decide +kernel
theorem dX8_movesOf_1 : decode cX8_movesOf 1 = .ok (.ifCond .lt 11, 3) := by decide +kernel
theorem dX8_movesOf_4 : decode cX8_movesOf 4 = .ok (.iload_n 1, 1) := by decide +kernel
theorem dX8_movesOf_5 : decode cX8_movesOf 5 = .ok (.aload_n 0, 1) := by decide +kernel
theorem dX8_movesOf_6 : decode cX8_movesOf 6 = .ok (.getfield 61, 3) := by decide +kernel
theorem dX8_movesOf_9 : decode cX8_movesOf 9 = .ok (.if_icmp .lt 7, 3) := by decide +kernel
theorem dX8_movesOf_12 : decode cX8_movesOf 12 = .ok (.aconst_null, 1) := by decide +kernel
theorem dX8_movesOf_13 : decode cX8_movesOf 13 = .ok (.goto 9, 3) := by decide +kernel
theorem dX8_movesOf_16 : decode cX8_movesOf 16 = .ok (.aload_n 0, 1) := by decide +kernel
theorem dX8_movesOf_17 : decode cX8_movesOf 17 = .ok (.getfield 28, 3) := by decide +kernel
theorem dX8_movesOf_20 : decode cX8_movesOf 20 = .ok (.iload_n 1, 1) := by decide +kernel
theorem dX8_movesOf_21 : decode cX8_movesOf 21 = .ok (.aaload, 1) := by decide +kernel
theorem dX8_movesOf_22 : decode cX8_movesOf 22 = .ok (.astore_n 2, 1) := by decide +kernel
theorem dX8_movesOf_23 : decode cX8_movesOf 23 = .ok (.aload_n 2, 1) := by decide +kernel
theorem dX8_movesOf_24 : decode cX8_movesOf 24 = .ok (.ifnonnull 9, 3) := by decide +kernel
theorem dX8_movesOf_27 : decode cX8_movesOf 27 = .ok (.getstatic 79, 3) := by decide +kernel
theorem dX8_movesOf_30 : decode cX8_movesOf 30 = .ok (.goto 7, 3) := by decide +kernel
theorem dX8_movesOf_33 : decode cX8_movesOf 33 = .ok (.aload_n 2, 1) := by decide +kernel
theorem dX8_movesOf_34 : decode cX8_movesOf 34 = .ok (.getfield 82, 3) := by decide +kernel
theorem dX8_movesOf_37 : decode cX8_movesOf 37 = .ok (.areturn, 1) := by decide +kernel
theorem dX8_tearsOf_0 : decode cX8_tearsOf 0 = .ok (.iload_n 1, 1) := by decide +kernel
theorem dX8_tearsOf_1 : decode cX8_tearsOf 1 = .ok (.ifCond .lt 11, 3) := by decide +kernel
theorem dX8_tearsOf_4 : decode cX8_tearsOf 4 = .ok (.iload_n 1, 1) := by decide +kernel
theorem dX8_tearsOf_5 : decode cX8_tearsOf 5 = .ok (.aload_n 0, 1) := by decide +kernel
theorem dX8_tearsOf_6 : decode cX8_tearsOf 6 = .ok (.getfield 61, 3) := by decide +kernel
theorem dX8_tearsOf_9 : decode cX8_tearsOf 9 = .ok (.if_icmp .lt 7, 3) := by decide +kernel
theorem dX8_tearsOf_12 : decode cX8_tearsOf 12 = .ok (.aconst_null, 1) := by decide +kernel
theorem dX8_tearsOf_13 : decode cX8_tearsOf 13 = .ok (.goto 9, 3) := by decide +kernel
theorem dX8_tearsOf_16 : decode cX8_tearsOf 16 = .ok (.aload_n 0, 1) := by decide +kernel
theorem dX8_tearsOf_17 : decode cX8_tearsOf 17 = .ok (.getfield 28, 3) := by decide +kernel
theorem dX8_tearsOf_20 : decode cX8_tearsOf 20 = .ok (.iload_n 1, 1) := by decide +kernel
theorem dX8_tearsOf_21 : decode cX8_tearsOf 21 = .ok (.aaload, 1) := by decide +kernel
theorem dX8_tearsOf_22 : decode cX8_tearsOf 22 = .ok (.astore_n 2, 1) := by decide +kernel
theorem dX8_tearsOf_23 : decode cX8_tearsOf 23 = .ok (.aload_n 2, 1) := by decide +kernel
theorem dX8_tearsOf_24 : decode cX8_tearsOf 24 = .ok (.ifnonnull 9, 3) := by decide +kernel
theorem dX8_tearsOf_27 : decode cX8_tearsOf 27 = .ok (.getstatic 79, 3) := by decide +kernel
theorem dX8_tearsOf_30 : decode cX8_tearsOf 30 = .ok (.goto 7, 3) := by decide +kernel
theorem dX8_tearsOf_33 : decode cX8_tearsOf 33 = .ok (.aload_n 2, 1) := by decide +kernel
theorem dX8_tearsOf_34 : decode cX8_tearsOf 34 = .ok (.getfield 85, 3) := by decide +kernel
theorem dX8_tearsOf_37 : decode cX8_tearsOf 37 = .ok (.areturn, 1) := by decide +kernel
