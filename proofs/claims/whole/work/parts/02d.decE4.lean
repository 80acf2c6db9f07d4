theorem dX10_rise_134 : decode cX10_rise 134 = .ok (.ireturn, 1) := by decide +kernel
theorem dX10_rise_135 : decode cX10_rise 135 = .ok (.iconst 0, 1) := by decide +kernel
theorem dX10_rise_136 : decode cX10_rise 136 = .ok (.istore_n 3, 1) := by decide +kernel
theorem dX10_rise_137 : decode cX10_rise 137 = .ok (.aload_n 0, 1) := by decide +kernel
theorem dX10_rise_138 : decode cX10_rise 138 = .ok (.getfield 50, 3) := by decide +kernel
theorem dX10_rise_141 : decode cX10_rise 141 = .ok (.iload_n 3, 1) := by decide +kernel
theorem dX10_rise_142 : decode cX10_rise 142 = .ok (.iaload, 1) := by decide +kernel
theorem dX10_rise_143 : decode cX10_rise 143 = .ok (.iload_n 2, 1) := by decide +kernel
theorem dX10_rise_144 : decode cX10_rise 144 = .ok (.if_icmp .eq 9, 3) := by decide +kernel
theorem dX10_rise_147 : decode cX10_rise 147 = .ok (.iinc 3 1, 3) := by decide +kernel
theorem dX10_rise_150 : decode cX10_rise 150 = .ok (.goto (-13), 3) := by decide +kernel
theorem dX10_rise_153 : decode cX10_rise 153 = .ok (.iconst 1, 1) := by decide +kernel
theorem dX10_rise_154 : decode cX10_rise 154 = .ok (.istore 4, 2) := by decide +kernel
theorem dX10_rise_156 : decode cX10_rise 156 = .ok (.iload 4, 2) := by decide +kernel
theorem dX10_rise_158 : decode cX10_rise 158 = .ok (.iload_n 1, 1) := by decide +kernel
theorem dX10_rise_159 : decode cX10_rise 159 = .ok (.if_icmp .gt 59, 3) := by decide +kernel
theorem dX10_rise_162 : decode cX10_rise 162 = .ok (.iload_n 3, 1) := by decide +kernel
theorem dX10_rise_163 : decode cX10_rise 163 = .ok (.iconst 1, 1) := by decide +kernel
theorem dX10_rise_164 : decode cX10_rise 164 = .ok (.iadd, 1) := by decide +kernel
theorem dX10_rise_165 : decode cX10_rise 165 = .ok (.istore 5, 2) := by decide +kernel
theorem dX10_rise_167 : decode cX10_rise 167 = .ok (.aload_n 0, 1) := by decide +kernel
theorem dX10_rise_168 : decode cX10_rise 168 = .ok (.getfield 50, 3) := by decide +kernel
theorem dX10_rise_171 : decode cX10_rise 171 = .ok (.iload 5, 2) := by decide +kernel
theorem dX10_rise_173 : decode cX10_rise 173 = .ok (.iaload, 1) := by decide +kernel
theorem dX10_rise_174 : decode cX10_rise 174 = .ok (.iload_n 2, 1) := by decide +kernel
theorem dX10_rise_175 : decode cX10_rise 175 = .ok (.iload 4, 2) := by decide +kernel
theorem dX10_rise_177 : decode cX10_rise 177 = .ok (.isub, 1) := by decide +kernel
theorem dX10_rise_178 : decode cX10_rise 178 = .ok (.if_icmp .ne 25, 3) := by decide +kernel
theorem dX10_rise_181 : decode cX10_rise 181 = .ok (.aload_n 0, 1) := by decide +kernel
theorem dX10_rise_182 : decode cX10_rise 182 = .ok (.getfield 7, 3) := by decide +kernel
theorem dX10_rise_185 : decode cX10_rise 185 = .ok (.bipush 11, 2) := by decide +kernel
theorem dX10_rise_187 : decode cX10_rise 187 = .ok (.iload 5, 2) := by decide +kernel
theorem dX10_rise_189 : decode cX10_rise 189 = .ok (.iadd, 1) := by decide +kernel
theorem dX10_rise_190 : decode cX10_rise 190 = .ok (.iaload, 1) := by decide +kernel
theorem dX10_rise_191 : decode cX10_rise 191 = .ok (.aload_n 0, 1) := by decide +kernel
theorem dX10_rise_192 : decode cX10_rise 192 = .ok (.getfield 7, 3) := by decide +kernel
theorem dX10_rise_195 : decode cX10_rise 195 = .ok (.bipush 11, 2) := by decide +kernel
theorem dX10_rise_197 : decode cX10_rise 197 = .ok (.iload_n 3, 1) := by decide +kernel
theorem dX10_rise_198 : decode cX10_rise 198 = .ok (.iadd, 1) := by decide +kernel
theorem dX10_rise_199 : decode cX10_rise 199 = .ok (.iaload, 1) := by decide +kernel
theorem dX10_rise_200 : decode cX10_rise 200 = .ok (.if_icmp .gt 9, 3) := by decide +kernel
theorem dX10_rise_203 : decode cX10_rise 203 = .ok (.iinc 5 1, 3) := by decide +kernel
theorem dX10_rise_206 : decode cX10_rise 206 = .ok (.goto (-39), 3) := by decide +kernel
theorem dX10_rise_209 : decode cX10_rise 209 = .ok (.iload 5, 2) := by decide +kernel
theorem dX10_rise_211 : decode cX10_rise 211 = .ok (.istore_n 3, 1) := by decide +kernel
theorem dX10_rise_212 : decode cX10_rise 212 = .ok (.iinc 4 1, 3) := by decide +kernel
theorem dX10_rise_215 : decode cX10_rise 215 = .ok (.goto (-59), 3) := by decide +kernel
theorem dX10_rise_218 : decode cX10_rise 218 = .ok (.iload_n 3, 1) := by decide +kernel
theorem dX10_rise_219 : decode cX10_rise 219 = .ok (.ireturn, 1) := by decide +kernel
theorem dX10_folds_0 : decode cX10_folds 0 = .ok (.iconst 0, 1) := by decide +kernel
theorem dX10_folds_1 : decode cX10_folds 1 = .ok (.istore_n 1, 1) := by decide +kernel
theorem dX10_folds_2 : decode cX10_folds 2 = .ok (.iconst 0, 1) := by decide +kernel
theorem dX10_folds_3 : decode cX10_folds 3 = .ok (.istore_n 2, 1) := by decide +kernel
theorem dX10_folds_4 : decode cX10_folds 4 = .ok (.iload_n 2, 1) := by decide +kernel
theorem dX10_folds_5 : decode cX10_folds 5 = .ok (.bipush 12, 2) := by decide +kernel
theorem dX10_folds_7 : decode cX10_folds 7 = .ok (.if_icmp .ge 54, 3) := by decide +kernel
theorem dX10_folds_10 : decode cX10_folds 10 = .ok (.iload_n 2, 1) := by decide +kernel
theorem dX10_folds_11 : decode cX10_folds 11 = .ok (.iconst 1, 1) := by decide +kernel
theorem dX10_folds_12 : decode cX10_folds 12 = .ok (.iadd, 1) := by decide +kernel
theorem dX10_folds_13 : decode cX10_folds 13 = .ok (.istore_n 3, 1) := by decide +kernel
theorem dX10_folds_14 : decode cX10_folds 14 = .ok (.iload_n 3, 1) := by decide +kernel
theorem dX10_folds_15 : decode cX10_folds 15 = .ok (.bipush 12, 2) := by decide +kernel
theorem dX10_folds_17 : decode cX10_folds 17 = .ok (.if_icmp .ge 38, 3) := by decide +kernel
theorem dX10_folds_20 : decode cX10_folds 20 = .ok (.iload_n 1, 1) := by decide +kernel
theorem dX10_folds_21 : decode cX10_folds 21 = .ok (.aload_n 0, 1) := by decide +kernel
theorem dX10_folds_22 : decode cX10_folds 22 = .ok (.getfield 7, 3) := by decide +kernel
theorem dX10_folds_25 : decode cX10_folds 25 = .ok (.bipush 11, 2) := by decide +kernel
theorem dX10_folds_27 : decode cX10_folds 27 = .ok (.iload_n 2, 1) := by decide +kernel
theorem dX10_folds_28 : decode cX10_folds 28 = .ok (.iadd, 1) := by decide +kernel
theorem dX10_folds_29 : decode cX10_folds 29 = .ok (.iaload, 1) := by decide +kernel
theorem dX10_folds_30 : decode cX10_folds 30 = .ok (.aload_n 0, 1) := by decide +kernel
theorem dX10_folds_31 : decode cX10_folds 31 = .ok (.getfield 7, 3) := by decide +kernel
theorem dX10_folds_34 : decode cX10_folds 34 = .ok (.bipush 11, 2) := by decide +kernel
theorem dX10_folds_36 : decode cX10_folds 36 = .ok (.iload_n 3, 1) := by decide +kernel
theorem dX10_folds_37 : decode cX10_folds 37 = .ok (.iadd, 1) := by decide +kernel
theorem dX10_folds_38 : decode cX10_folds 38 = .ok (.iaload, 1) := by decide +kernel
theorem dX10_folds_39 : decode cX10_folds 39 = .ok (.if_icmp .le 7, 3) := by decide +kernel
theorem dX10_folds_42 : decode cX10_folds 42 = .ok (.iconst 1, 1) := by decide +kernel
theorem dX10_folds_43 : decode cX10_folds 43 = .ok (.goto 4, 3) := by decide +kernel
theorem dX10_folds_46 : decode cX10_folds 46 = .ok (.iconst 0, 1) := by decide +kernel
theorem dX10_folds_47 : decode cX10_folds 47 = .ok (.iadd, 1) := by decide +kernel
theorem dX10_folds_48 : decode cX10_folds 48 = .ok (.istore_n 1, 1) := by decide +kernel
theorem dX10_folds_49 : decode cX10_folds 49 = .ok (.iinc 3 1, 3) := by decide +kernel
theorem dX10_folds_52 : decode cX10_folds 52 = .ok (.goto (-38), 3) := by decide +kernel
theorem dX10_folds_55 : decode cX10_folds 55 = .ok (.iinc 2 1, 3) := by decide +kernel
theorem dX10_folds_58 : decode cX10_folds 58 = .ok (.goto (-54), 3) := by decide +kernel
theorem dX10_folds_61 : decode cX10_folds 61 = .ok (.iload_n 1, 1) := by decide +kernel
theorem dX10_folds_62 : decode cX10_folds 62 = .ok (.ireturn, 1) := by decide +kernel
theorem dX10_peaks_0 : decode cX10_peaks 0 = .ok (.iconst 0, 1) := by decide +kernel
theorem dX10_peaks_1 : decode cX10_peaks 1 = .ok (.istore_n 1, 1) := by decide +kernel
theorem dX10_peaks_2 : decode cX10_peaks 2 = .ok (.iconst 0, 1) := by decide +kernel
theorem dX10_peaks_3 : decode cX10_peaks 3 = .ok (.istore_n 2, 1) := by decide +kernel
theorem dX10_peaks_4 : decode cX10_peaks 4 = .ok (.iload_n 2, 1) := by decide +kernel
theorem dX10_peaks_5 : decode cX10_peaks 5 = .ok (.bipush 12, 2) := by decide +kernel
theorem dX10_peaks_7 : decode cX10_peaks 7 = .ok (.if_icmp .ge 75, 3) := by decide +kernel
theorem dX10_peaks_10 : decode cX10_peaks 10 = .ok (.iload_n 1, 1) := by decide +kernel
theorem dX10_peaks_11 : decode cX10_peaks 11 = .ok (.iload_n 2, 1) := by decide +kernel
theorem dX10_peaks_12 : decode cX10_peaks 12 = .ok (.ifCond .eq 26, 3) := by decide +kernel
theorem dX10_peaks_15 : decode cX10_peaks 15 = .ok (.aload_n 0, 1) := by decide +kernel
theorem dX10_peaks_16 : decode cX10_peaks 16 = .ok (.getfield 7, 3) := by decide +kernel
theorem dX10_peaks_19 : decode cX10_peaks 19 = .ok (.bipush 11, 2) := by decide +kernel
theorem dX10_peaks_21 : decode cX10_peaks 21 = .ok (.iload_n 2, 1) := by decide +kernel
theorem dX10_peaks_22 : decode cX10_peaks 22 = .ok (.iadd, 1) := by decide +kernel
theorem dX10_peaks_23 : decode cX10_peaks 23 = .ok (.iaload, 1) := by decide +kernel
theorem dX10_peaks_24 : decode cX10_peaks 24 = .ok (.aload_n 0, 1) := by decide +kernel
theorem dX10_peaks_25 : decode cX10_peaks 25 = .ok (.getfield 7, 3) := by decide +kernel
theorem dX10_peaks_28 : decode cX10_peaks 28 = .ok (.bipush 11, 2) := by decide +kernel
theorem dX10_peaks_30 : decode cX10_peaks 30 = .ok (.iload_n 2, 1) := by decide +kernel
theorem dX10_peaks_31 : decode cX10_peaks 31 = .ok (.iadd, 1) := by decide +kernel
theorem dX10_peaks_32 : decode cX10_peaks 32 = .ok (.iconst 1, 1) := by decide +kernel
theorem dX10_peaks_33 : decode cX10_peaks 33 = .ok (.isub, 1) := by decide +kernel
theorem dX10_peaks_34 : decode cX10_peaks 34 = .ok (.iaload, 1) := by decide +kernel
theorem dX10_peaks_35 : decode cX10_peaks 35 = .ok (.if_icmp .le 38, 3) := by decide +kernel
theorem dX10_peaks_38 : decode cX10_peaks 38 = .ok (.iload_n 2, 1) := by decide +kernel
theorem dX10_peaks_39 : decode cX10_peaks 39 = .ok (.bipush 11, 2) := by decide +kernel
theorem dX10_peaks_41 : decode cX10_peaks 41 = .ok (.if_icmp .eq 26, 3) := by decide +kernel
theorem dX10_peaks_44 : decode cX10_peaks 44 = .ok (.aload_n 0, 1) := by decide +kernel
theorem dX10_peaks_45 : decode cX10_peaks 45 = .ok (.getfield 7, 3) := by decide +kernel
theorem dX10_peaks_48 : decode cX10_peaks 48 = .ok (.bipush 11, 2) := by decide +kernel
theorem dX10_peaks_50 : decode cX10_peaks 50 = .ok (.iload_n 2, 1) := by decide +kernel
theorem dX10_peaks_51 : decode cX10_peaks 51 = .ok (.iadd, 1) := by decide +kernel
theorem dX10_peaks_52 : decode cX10_peaks 52 = .ok (.iaload, 1) := by decide +kernel
theorem dX10_peaks_53 : decode cX10_peaks 53 = .ok (.aload_n 0, 1) := by decide +kernel
theorem dX10_peaks_54 : decode cX10_peaks 54 = .ok (.getfield 7, 3) := by decide +kernel
theorem dX10_peaks_57 : decode cX10_peaks 57 = .ok (.bipush 11, 2) := by decide +kernel
theorem dX10_peaks_59 : decode cX10_peaks 59 = .ok (.iload_n 2, 1) := by decide +kernel
theorem dX10_peaks_60 : decode cX10_peaks 60 = .ok (.iadd, 1) := by decide +kernel
theorem dX10_peaks_61 : decode cX10_peaks 61 = .ok (.iconst 1, 1) := by decide +kernel
theorem dX10_peaks_62 : decode cX10_peaks 62 = .ok (.iadd, 1) := by decide +kernel
theorem dX10_peaks_63 : decode cX10_peaks 63 = .ok (.iaload, 1) := by decide +kernel
theorem dX10_peaks_64 : decode cX10_peaks 64 = .ok (.if_icmp .le 9, 3) := by decide +kernel
theorem dX10_peaks_67 : decode cX10_peaks 67 = .ok (.iconst 1, 1) := by decide +kernel
theorem dX10_peaks_68 : decode cX10_peaks 68 = .ok (.iload_n 2, 1) := by decide +kernel
theorem dX10_peaks_69 : decode cX10_peaks 69 = .ok (.ishl, 1) := by decide +kernel
theorem dX10_peaks_70 : decode cX10_peaks 70 = .ok (.goto 4, 3) := by decide +kernel
theorem dX10_peaks_73 : decode cX10_peaks 73 = .ok (.iconst 0, 1) := by decide +kernel
theorem dX10_peaks_74 : decode cX10_peaks 74 = .ok (.ior, 1) := by decide +kernel
theorem dX10_peaks_75 : decode cX10_peaks 75 = .ok (.istore_n 1, 1) := by decide +kernel
theorem dX10_peaks_76 : decode cX10_peaks 76 = .ok (.iinc 2 1, 3) := by decide +kernel
theorem dX10_peaks_79 : decode cX10_peaks 79 = .ok (.goto (-75), 3) := by decide +kernel
theorem dX10_peaks_82 : decode cX10_peaks 82 = .ok (.iload_n 1, 1) := by decide +kernel
theorem dX10_peaks_83 : decode cX10_peaks 83 = .ok (.ireturn, 1) := by decide +kernel
theorem dX10_richest_0 : decode cX10_richest 0 = .ok (.iload_n 1, 1) := by decide +kernel
theorem dX10_richest_1 : decode cX10_richest 1 = .ok (.iconst 1, 1) := by decide +kernel
theorem dX10_richest_2 : decode cX10_richest 2 = .ok (.bipush 12, 2) := by decide +kernel
theorem dX10_richest_4 : decode cX10_richest 4 = .ok (.invokestatic 63, 3) := by decide +kernel
theorem dX10_richest_7 : decode cX10_richest 7 = .ok (.ifCond .ne 5, 3) := by decide +kernel
theorem dX10_richest_10 : decode cX10_richest 10 = .ok (.iconst (-1), 1) := by decide +kernel
theorem dX10_richest_11 : decode cX10_richest 11 = .ok (.ireturn, 1) := by decide +kernel
theorem dX10_richest_12 : decode cX10_richest 12 = .ok (.iconst 0, 1) := by decide +kernel
theorem dX10_richest_13 : decode cX10_richest 13 = .ok (.istore_n 2, 1) := by decide +kernel
theorem dX10_richest_14 : decode cX10_richest 14 = .ok (.iconst 1, 1) := by decide +kernel
theorem dX10_richest_15 : decode cX10_richest 15 = .ok (.istore_n 3, 1) := by decide +kernel
theorem dX10_richest_16 : decode cX10_richest 16 = .ok (.iload_n 3, 1) := by decide +kernel
theorem dX10_richest_17 : decode cX10_richest 17 = .ok (.iload_n 1, 1) := by decide +kernel
theorem dX10_richest_18 : decode cX10_richest 18 = .ok (.iadd, 1) := by decide +kernel
theorem dX10_richest_19 : decode cX10_richest 19 = .ok (.bipush 12, 2) := by decide +kernel
theorem dX10_richest_21 : decode cX10_richest 21 = .ok (.if_icmp .gt 26, 3) := by decide +kernel
theorem dX10_richest_24 : decode cX10_richest 24 = .ok (.aload_n 0, 1) := by decide +kernel
theorem dX10_richest_25 : decode cX10_richest 25 = .ok (.iload_n 3, 1) := by decide +kernel
theorem dX10_richest_26 : decode cX10_richest 26 = .ok (.iload_n 1, 1) := by decide +kernel
theorem dX10_richest_27 : decode cX10_richest 27 = .ok (.invokevirtual 365, 3) := by decide +kernel
theorem dX10_richest_30 : decode cX10_richest 30 = .ok (.aload_n 0, 1) := by decide +kernel
theorem dX10_richest_31 : decode cX10_richest 31 = .ok (.iload_n 2, 1) := by decide +kernel
theorem dX10_richest_32 : decode cX10_richest 32 = .ok (.iload_n 1, 1) := by decide +kernel
theorem dX10_richest_33 : decode cX10_richest 33 = .ok (.invokevirtual 365, 3) := by decide +kernel
theorem dX10_richest_36 : decode cX10_richest 36 = .ok (.if_icmp .le 5, 3) := by decide +kernel
theorem dX10_richest_39 : decode cX10_richest 39 = .ok (.iload_n 3, 1) := by decide +kernel
theorem dX10_richest_40 : decode cX10_richest 40 = .ok (.istore_n 2, 1) := by decide +kernel
theorem dX10_richest_41 : decode cX10_richest 41 = .ok (.iinc 3 1, 3) := by decide +kernel
theorem dX10_richest_44 : decode cX10_richest 44 = .ok (.goto (-28), 3) := by decide +kernel
theorem dX10_richest_47 : decode cX10_richest 47 = .ok (.iload_n 2, 1) := by decide +kernel
theorem dX10_richest_48 : decode cX10_richest 48 = .ok (.ireturn, 1) := by decide +kernel
theorem dX10_islands_0 : decode cX10_islands 0 = .ok (.iload_n 1, 1) := by decide +kernel
theorem dX10_islands_1 : decode cX10_islands 1 = .ok (.iconst 0, 1) := by decide +kernel
theorem dX10_islands_2 : decode cX10_islands 2 = .ok (.sipush 9999, 3) := by decide +kernel
theorem dX10_islands_5 : decode cX10_islands 5 = .ok (.invokestatic 63, 3) := by decide +kernel
theorem dX10_islands_8 : decode cX10_islands 8 = .ok (.ifCond .ne 5, 3) := by decide +kernel
theorem dX10_islands_11 : decode cX10_islands 11 = .ok (.iconst (-1), 1) := by decide +kernel
theorem dX10_islands_12 : decode cX10_islands 12 = .ok (.ireturn, 1) := by decide +kernel
theorem dX10_islands_13 : decode cX10_islands 13 = .ok (.iconst 0, 1) := by decide +kernel
theorem dX10_islands_14 : decode cX10_islands 14 = .ok (.istore_n 2, 1) := by decide +kernel
theorem dX10_islands_15 : decode cX10_islands 15 = .ok (.iconst 0, 1) := by decide +kernel
theorem dX10_islands_16 : decode cX10_islands 16 = .ok (.istore_n 3, 1) := by decide +kernel
theorem dX10_islands_17 : decode cX10_islands 17 = .ok (.iload_n 3, 1) := by decide +kernel
theorem dX10_islands_18 : decode cX10_islands 18 = .ok (.bipush 12, 2) := by decide +kernel
theorem dX10_islands_20 : decode cX10_islands 20 = .ok (.if_icmp .ge 49, 3) := by decide +kernel
theorem dX10_islands_23 : decode cX10_islands 23 = .ok (.iload_n 2, 1) := by decide +kernel
theorem dX10_islands_24 : decode cX10_islands 24 = .ok (.aload_n 0, 1) := by decide +kernel
theorem dX10_islands_25 : decode cX10_islands 25 = .ok (.getfield 7, 3) := by decide +kernel
theorem dX10_islands_28 : decode cX10_islands 28 = .ok (.bipush 11, 2) := by decide +kernel
theorem dX10_islands_30 : decode cX10_islands 30 = .ok (.iload_n 3, 1) := by decide +kernel
theorem dX10_islands_31 : decode cX10_islands 31 = .ok (.iadd, 1) := by decide +kernel
theorem dX10_islands_32 : decode cX10_islands 32 = .ok (.iaload, 1) := by decide +kernel
theorem dX10_islands_33 : decode cX10_islands 33 = .ok (.iload_n 1, 1) := by decide +kernel
theorem dX10_islands_34 : decode cX10_islands 34 = .ok (.if_icmp .le 26, 3) := by decide +kernel
theorem dX10_islands_37 : decode cX10_islands 37 = .ok (.iload_n 3, 1) := by decide +kernel
theorem dX10_islands_38 : decode cX10_islands 38 = .ok (.ifCond .eq 18, 3) := by decide +kernel
theorem dX10_islands_41 : decode cX10_islands 41 = .ok (.aload_n 0, 1) := by decide +kernel
theorem dX10_islands_42 : decode cX10_islands 42 = .ok (.getfield 7, 3) := by decide +kernel
theorem dX10_islands_45 : decode cX10_islands 45 = .ok (.bipush 11, 2) := by decide +kernel
theorem dX10_islands_47 : decode cX10_islands 47 = .ok (.iload_n 3, 1) := by decide +kernel
theorem dX10_islands_48 : decode cX10_islands 48 = .ok (.iadd, 1) := by decide +kernel
theorem dX10_islands_49 : decode cX10_islands 49 = .ok (.iconst 1, 1) := by decide +kernel
theorem dX10_islands_50 : decode cX10_islands 50 = .ok (.isub, 1) := by decide +kernel
theorem dX10_islands_51 : decode cX10_islands 51 = .ok (.iaload, 1) := by decide +kernel
theorem dX10_islands_52 : decode cX10_islands 52 = .ok (.iload_n 1, 1) := by decide +kernel
theorem dX10_islands_53 : decode cX10_islands 53 = .ok (.if_icmp .gt 7, 3) := by decide +kernel
theorem dX10_islands_56 : decode cX10_islands 56 = .ok (.iconst 1, 1) := by decide +kernel
theorem dX10_islands_57 : decode cX10_islands 57 = .ok (.goto 4, 3) := by decide +kernel
theorem dX10_islands_60 : decode cX10_islands 60 = .ok (.iconst 0, 1) := by decide +kernel
theorem dX10_islands_61 : decode cX10_islands 61 = .ok (.iadd, 1) := by decide +kernel
theorem dX10_islands_62 : decode cX10_islands 62 = .ok (.istore_n 2, 1) := by decide +kernel
theorem dX10_islands_63 : decode cX10_islands 63 = .ok (.iinc 3 1, 3) := by decide +kernel
theorem dX10_islands_66 : decode cX10_islands 66 = .ok (.goto (-49), 3) := by decide +kernel
theorem dX10_islands_69 : decode cX10_islands 69 = .ok (.iload_n 2, 1) := by decide +kernel
theorem dX10_islands_70 : decode cX10_islands 70 = .ok (.ireturn, 1) := by decide +kernel
theorem dX10_sees_0 : decode cX10_sees 0 = .ok (.iload_n 1, 1) := by decide +kernel
theorem dX10_sees_1 : decode cX10_sees 1 = .ok (.invokestatic 67, 3) := by decide +kernel
theorem dX10_sees_4 : decode cX10_sees 4 = .ok (.ifCond .ne 5, 3) := by decide +kernel
theorem dX10_sees_7 : decode cX10_sees 7 = .ok (.iconst (-1), 1) := by decide +kernel
theorem dX10_sees_8 : decode cX10_sees 8 = .ok (.ireturn, 1) := by decide +kernel
theorem dX10_sees_9 : decode cX10_sees 9 = .ok (.iload_n 1, 1) := by decide +kernel
theorem dX10_sees_10 : decode cX10_sees 10 = .ok (.iload_n 2, 1) := by decide +kernel
theorem dX10_sees_11 : decode cX10_sees 11 = .ok (.invokestatic 273, 3) := by decide +kernel
theorem dX10_sees_14 : decode cX10_sees 14 = .ok (.istore_n 3, 1) := by decide +kernel
theorem dX10_sees_15 : decode cX10_sees 15 = .ok (.iload_n 3, 1) := by decide +kernel
theorem dX10_sees_16 : decode cX10_sees 16 = .ok (.iconst (-1), 1) := by decide +kernel
theorem dX10_sees_17 : decode cX10_sees 17 = .ok (.if_icmp .eq 33, 3) := by decide +kernel
theorem dX10_sees_20 : decode cX10_sees 20 = .ok (.aload_n 0, 1) := by decide +kernel
theorem dX10_sees_21 : decode cX10_sees 21 = .ok (.getfield 7, 3) := by decide +kernel
theorem dX10_sees_24 : decode cX10_sees 24 = .ok (.bipush 11, 2) := by decide +kernel
theorem dX10_sees_26 : decode cX10_sees 26 = .ok (.iload_n 3, 1) := by decide +kernel
theorem dX10_sees_27 : decode cX10_sees 27 = .ok (.iadd, 1) := by decide +kernel
theorem dX10_sees_28 : decode cX10_sees 28 = .ok (.iaload, 1) := by decide +kernel
theorem dX10_sees_29 : decode cX10_sees 29 = .ok (.aload_n 0, 1) := by decide +kernel
theorem dX10_sees_30 : decode cX10_sees 30 = .ok (.getfield 7, 3) := by decide +kernel
theorem dX10_sees_33 : decode cX10_sees 33 = .ok (.bipush 11, 2) := by decide +kernel
theorem dX10_sees_35 : decode cX10_sees 35 = .ok (.iload_n 1, 1) := by decide +kernel
theorem dX10_sees_36 : decode cX10_sees 36 = .ok (.iadd, 1) := by decide +kernel
theorem dX10_sees_37 : decode cX10_sees 37 = .ok (.iaload, 1) := by decide +kernel
theorem dX10_sees_38 : decode cX10_sees 38 = .ok (.if_icmp .gt 12, 3) := by decide +kernel
theorem dX10_sees_41 : decode cX10_sees 41 = .ok (.iload_n 3, 1) := by decide +kernel
theorem dX10_sees_42 : decode cX10_sees 42 = .ok (.iload_n 2, 1) := by decide +kernel
theorem dX10_sees_43 : decode cX10_sees 43 = .ok (.invokestatic 273, 3) := by decide +kernel
theorem dX10_sees_46 : decode cX10_sees 46 = .ok (.istore_n 3, 1) := by decide +kernel
theorem dX10_sees_47 : decode cX10_sees 47 = .ok (.goto (-32), 3) := by decide +kernel
theorem dX10_sees_50 : decode cX10_sees 50 = .ok (.iload_n 3, 1) := by decide +kernel
theorem dX10_sees_51 : decode cX10_sees 51 = .ok (.ireturn, 1) := by decide +kernel
theorem dX10_middle_0 : decode cX10_middle 0 = .ok (.iload_n 1, 1) := by decide +kernel
theorem dX10_middle_1 : decode cX10_middle 1 = .ok (.iconst 1, 1) := by decide +kernel
theorem dX10_middle_2 : decode cX10_middle 2 = .ok (.bipush 12, 2) := by decide +kernel
theorem dX10_middle_4 : decode cX10_middle 4 = .ok (.invokestatic 63, 3) := by decide +kernel
theorem dX10_middle_7 : decode cX10_middle 7 = .ok (.ifCond .ne 5, 3) := by decide +kernel
theorem dX10_middle_10 : decode cX10_middle 10 = .ok (.iconst (-1), 1) := by decide +kernel
theorem dX10_middle_11 : decode cX10_middle 11 = .ok (.ireturn, 1) := by decide +kernel
theorem dX10_middle_12 : decode cX10_middle 12 = .ok (.iconst 0, 1) := by decide +kernel
theorem dX10_middle_13 : decode cX10_middle 13 = .ok (.istore_n 2, 1) := by decide +kernel
theorem dX10_middle_14 : decode cX10_middle 14 = .ok (.iload_n 2, 1) := by decide +kernel
theorem dX10_middle_15 : decode cX10_middle 15 = .ok (.bipush 12, 2) := by decide +kernel
theorem dX10_middle_17 : decode cX10_middle 17 = .ok (.if_icmp .ge 115, 3) := by decide +kernel
theorem dX10_middle_20 : decode cX10_middle 20 = .ok (.iconst 0, 1) := by decide +kernel
theorem dX10_middle_21 : decode cX10_middle 21 = .ok (.istore_n 3, 1) := by decide +kernel
theorem dX10_middle_22 : decode cX10_middle 22 = .ok (.iconst 0, 1) := by decide +kernel
theorem dX10_middle_23 : decode cX10_middle 23 = .ok (.istore 4, 2) := by decide +kernel
theorem dX10_middle_25 : decode cX10_middle 25 = .ok (.iconst 0, 1) := by decide +kernel
theorem dX10_middle_26 : decode cX10_middle 26 = .ok (.istore 5, 2) := by decide +kernel
theorem dX10_middle_28 : decode cX10_middle 28 = .ok (.iload 5, 2) := by decide +kernel
theorem dX10_middle_30 : decode cX10_middle 30 = .ok (.bipush 12, 2) := by decide +kernel
theorem dX10_middle_32 : decode cX10_middle 32 = .ok (.if_icmp .ge 71, 3) := by decide +kernel
theorem dX10_middle_35 : decode cX10_middle 35 = .ok (.iload_n 3, 1) := by decide +kernel
theorem dX10_middle_36 : decode cX10_middle 36 = .ok (.aload_n 0, 1) := by decide +kernel
theorem dX10_middle_37 : decode cX10_middle 37 = .ok (.getfield 7, 3) := by decide +kernel
theorem dX10_middle_40 : decode cX10_middle 40 = .ok (.bipush 11, 2) := by decide +kernel
theorem dX10_middle_42 : decode cX10_middle 42 = .ok (.iload 5, 2) := by decide +kernel
theorem dX10_middle_44 : decode cX10_middle 44 = .ok (.iadd, 1) := by decide +kernel
theorem dX10_middle_45 : decode cX10_middle 45 = .ok (.iaload, 1) := by decide +kernel
theorem dX10_middle_46 : decode cX10_middle 46 = .ok (.aload_n 0, 1) := by decide +kernel
theorem dX10_middle_47 : decode cX10_middle 47 = .ok (.getfield 7, 3) := by decide +kernel
theorem dX10_middle_50 : decode cX10_middle 50 = .ok (.bipush 11, 2) := by decide +kernel
theorem dX10_middle_52 : decode cX10_middle 52 = .ok (.iload_n 2, 1) := by decide +kernel
theorem dX10_middle_53 : decode cX10_middle 53 = .ok (.iadd, 1) := by decide +kernel
theorem dX10_middle_54 : decode cX10_middle 54 = .ok (.iaload, 1) := by decide +kernel
theorem dX10_middle_55 : decode cX10_middle 55 = .ok (.if_icmp .ge 7, 3) := by decide +kernel
theorem dX10_middle_58 : decode cX10_middle 58 = .ok (.iconst 1, 1) := by decide +kernel
theorem dX10_middle_59 : decode cX10_middle 59 = .ok (.goto 4, 3) := by decide +kernel
theorem dX10_middle_62 : decode cX10_middle 62 = .ok (.iconst 0, 1) := by decide +kernel
theorem dX10_middle_63 : decode cX10_middle 63 = .ok (.iadd, 1) := by decide +kernel
theorem dX10_middle_64 : decode cX10_middle 64 = .ok (.istore_n 3, 1) := by decide +kernel
theorem dX10_middle_65 : decode cX10_middle 65 = .ok (.iload 4, 2) := by decide +kernel
theorem dX10_middle_67 : decode cX10_middle 67 = .ok (.aload_n 0, 1) := by decide +kernel
theorem dX10_middle_68 : decode cX10_middle 68 = .ok (.getfield 7, 3) := by decide +kernel
theorem dX10_middle_71 : decode cX10_middle 71 = .ok (.bipush 11, 2) := by decide +kernel
theorem dX10_middle_73 : decode cX10_middle 73 = .ok (.iload 5, 2) := by decide +kernel
theorem dX10_middle_75 : decode cX10_middle 75 = .ok (.iadd, 1) := by decide +kernel
theorem dX10_middle_76 : decode cX10_middle 76 = .ok (.iaload, 1) := by decide +kernel
theorem dX10_middle_77 : decode cX10_middle 77 = .ok (.aload_n 0, 1) := by decide +kernel
theorem dX10_middle_78 : decode cX10_middle 78 = .ok (.getfield 7, 3) := by decide +kernel
theorem dX10_middle_81 : decode cX10_middle 81 = .ok (.bipush 11, 2) := by decide +kernel
theorem dX10_middle_83 : decode cX10_middle 83 = .ok (.iload_n 2, 1) := by decide +kernel
theorem dX10_middle_84 : decode cX10_middle 84 = .ok (.iadd, 1) := by decide +kernel
theorem dX10_middle_85 : decode cX10_middle 85 = .ok (.iaload, 1) := by decide +kernel
theorem dX10_middle_86 : decode cX10_middle 86 = .ok (.if_icmp .ne 7, 3) := by decide +kernel
theorem dX10_middle_89 : decode cX10_middle 89 = .ok (.iconst 1, 1) := by decide +kernel
theorem dX10_middle_90 : decode cX10_middle 90 = .ok (.goto 4, 3) := by decide +kernel
theorem dX10_middle_93 : decode cX10_middle 93 = .ok (.iconst 0, 1) := by decide +kernel
theorem dX10_middle_94 : decode cX10_middle 94 = .ok (.iadd, 1) := by decide +kernel
theorem dX10_middle_95 : decode cX10_middle 95 = .ok (.istore 4, 2) := by decide +kernel
theorem dX10_middle_97 : decode cX10_middle 97 = .ok (.iinc 5 1, 3) := by decide +kernel
theorem dX10_middle_100 : decode cX10_middle 100 = .ok (.goto (-72), 3) := by decide +kernel
theorem dX10_middle_103 : decode cX10_middle 103 = .ok (.iload_n 1, 1) := by decide +kernel
theorem dX10_middle_104 : decode cX10_middle 104 = .ok (.iload_n 3, 1) := by decide +kernel
theorem dX10_middle_105 : decode cX10_middle 105 = .ok (.if_icmp .le 21, 3) := by decide +kernel
theorem dX10_middle_108 : decode cX10_middle 108 = .ok (.iload_n 1, 1) := by decide +kernel
theorem dX10_middle_109 : decode cX10_middle 109 = .ok (.iload_n 3, 1) := by decide +kernel
theorem dX10_middle_110 : decode cX10_middle 110 = .ok (.iload 4, 2) := by decide +kernel
theorem dX10_middle_112 : decode cX10_middle 112 = .ok (.iadd, 1) := by decide +kernel
theorem dX10_middle_113 : decode cX10_middle 113 = .ok (.if_icmp .gt 13, 3) := by decide +kernel
theorem dX10_middle_116 : decode cX10_middle 116 = .ok (.aload_n 0, 1) := by decide +kernel
theorem dX10_middle_117 : decode cX10_middle 117 = .ok (.getfield 7, 3) := by decide +kernel
theorem dX10_middle_120 : decode cX10_middle 120 = .ok (.bipush 11, 2) := by decide +kernel
theorem dX10_middle_122 : decode cX10_middle 122 = .ok (.iload_n 2, 1) := by decide +kernel
theorem dX10_middle_123 : decode cX10_middle 123 = .ok (.iadd, 1) := by decide +kernel
theorem dX10_middle_124 : decode cX10_middle 124 = .ok (.iaload, 1) := by decide +kernel
theorem dX10_middle_125 : decode cX10_middle 125 = .ok (.ireturn, 1) := by decide +kernel
theorem dX10_middle_126 : decode cX10_middle 126 = .ok (.iinc 2 1, 3) := by decide +kernel
theorem dX10_middle_129 : decode cX10_middle 129 = .ok (.goto (-115), 3) := by decide +kernel
theorem dX10_middle_132 : decode cX10_middle 132 = .ok (.iconst (-1), 1) := by decide +kernel
theorem dX10_middle_133 : decode cX10_middle 133 = .ok (.ireturn, 1) := by decide +kernel
theorem dX10_size_0 : decode cX10_size 0 = .ok (.iload_n 0, 1) := by decide +kernel
theorem dX10_size_1 : decode cX10_size 1 = .ok (.ifCond .ge 8, 3) := by decide +kernel
theorem dX10_size_4 : decode cX10_size 4 = .ok (.iload_n 0, 1) := by decide +kernel
theorem dX10_size_5 : decode cX10_size 5 = .ok (.ineg, 1) := by decide +kernel
theorem dX10_size_6 : decode cX10_size 6 = .ok (.goto 4, 3) := by decide +kernel
theorem dX10_size_9 : decode cX10_size 9 = .ok (.iload_n 0, 1) := by decide +kernel
theorem dX10_size_10 : decode cX10_size 10 = .ok (.ireturn, 1) := by decide +kernel
theorem dX10_carried_0 : decode cX10_carried 0 = .ok (.iconst 0, 1) := by decide +kernel
theorem dX10_carried_1 : decode cX10_carried 1 = .ok (.istore_n 1, 1) := by decide +kernel
theorem dX10_carried_2 : decode cX10_carried 2 = .ok (.iconst 0, 1) := by decide +kernel
theorem dX10_carried_3 : decode cX10_carried 3 = .ok (.istore_n 2, 1) := by decide +kernel
theorem dX10_carried_4 : decode cX10_carried 4 = .ok (.iconst 0, 1) := by decide +kernel
theorem dX10_carried_5 : decode cX10_carried 5 = .ok (.istore_n 3, 1) := by decide +kernel
theorem dX10_carried_6 : decode cX10_carried 6 = .ok (.iload_n 3, 1) := by decide +kernel
theorem dX10_carried_7 : decode cX10_carried 7 = .ok (.bipush 12, 2) := by decide +kernel
theorem dX10_carried_9 : decode cX10_carried 9 = .ok (.if_icmp .ge 38, 3) := by decide +kernel
theorem dX10_carried_12 : decode cX10_carried 12 = .ok (.iload_n 1, 1) := by decide +kernel
theorem dX10_carried_13 : decode cX10_carried 13 = .ok (.aload_n 0, 1) := by decide +kernel
theorem dX10_carried_14 : decode cX10_carried 14 = .ok (.getfield 13, 3) := by decide +kernel
theorem dX10_carried_17 : decode cX10_carried 17 = .ok (.bipush 11, 2) := by decide +kernel
theorem dX10_carried_19 : decode cX10_carried 19 = .ok (.iload_n 3, 1) := by decide +kernel
theorem dX10_carried_20 : decode cX10_carried 20 = .ok (.iadd, 1) := by decide +kernel
theorem dX10_carried_21 : decode cX10_carried 21 = .ok (.iaload, 1) := by decide +kernel
theorem dX10_carried_22 : decode cX10_carried 22 = .ok (.aload_n 0, 1) := by decide +kernel
theorem dX10_carried_23 : decode cX10_carried 23 = .ok (.getfield 7, 3) := by decide +kernel
theorem dX10_carried_26 : decode cX10_carried 26 = .ok (.bipush 11, 2) := by decide +kernel
theorem dX10_carried_28 : decode cX10_carried 28 = .ok (.iload_n 3, 1) := by decide +kernel
theorem dX10_carried_29 : decode cX10_carried 29 = .ok (.iadd, 1) := by decide +kernel
theorem dX10_carried_30 : decode cX10_carried 30 = .ok (.iaload, 1) := by decide +kernel
theorem dX10_carried_31 : decode cX10_carried 31 = .ok (.isub, 1) := by decide +kernel
theorem dX10_carried_32 : decode cX10_carried 32 = .ok (.iadd, 1) := by decide +kernel
theorem dX10_carried_33 : decode cX10_carried 33 = .ok (.istore_n 1, 1) := by decide +kernel
theorem dX10_carried_34 : decode cX10_carried 34 = .ok (.iload_n 2, 1) := by decide +kernel
theorem dX10_carried_35 : decode cX10_carried 35 = .ok (.iload_n 1, 1) := by decide +kernel
theorem dX10_carried_36 : decode cX10_carried 36 = .ok (.invokestatic 384, 3) := by decide +kernel
theorem dX10_carried_39 : decode cX10_carried 39 = .ok (.iadd, 1) := by decide +kernel
theorem dX10_carried_40 : decode cX10_carried 40 = .ok (.istore_n 2, 1) := by decide +kernel
theorem dX10_carried_41 : decode cX10_carried 41 = .ok (.iinc 3 1, 3) := by decide +kernel
theorem dX10_carried_44 : decode cX10_carried 44 = .ok (.goto (-38), 3) := by decide +kernel
theorem dX10_carried_47 : decode cX10_carried 47 = .ok (.iload_n 1, 1) := by decide +kernel
theorem dX10_carried_48 : decode cX10_carried 48 = .ok (.ifCond .ne 7, 3) := by decide +kernel
theorem dX10_carried_51 : decode cX10_carried 51 = .ok (.iload_n 2, 1) := by decide +kernel
theorem dX10_carried_52 : decode cX10_carried 52 = .ok (.goto 4, 3) := by decide +kernel
theorem dX10_carried_55 : decode cX10_carried 55 = .ok (.iconst (-1), 1) := by decide +kernel
theorem dX10_carried_56 : decode cX10_carried 56 = .ok (.ireturn, 1) := by decide +kernel
theorem dX10_level_0 : decode cX10_level 0 = .ok (.aload_n 0, 1) := by decide +kernel
theorem dX10_level_1 : decode cX10_level 1 = .ok (.iconst 0, 1) := by decide +kernel
theorem dX10_level_2 : decode cX10_level 2 = .ok (.bipush 12, 2) := by decide +kernel
theorem dX10_level_4 : decode cX10_level 4 = .ok (.invokevirtual 365, 3) := by decide +kernel
theorem dX10_level_7 : decode cX10_level 7 = .ok (.istore_n 1, 1) := by decide +kernel
theorem dX10_level_8 : decode cX10_level 8 = .ok (.iconst 0, 1) := by decide +kernel
theorem dX10_level_9 : decode cX10_level 9 = .ok (.istore_n 2, 1) := by decide +kernel
theorem dX10_level_10 : decode cX10_level 10 = .ok (.iconst 0, 1) := by decide +kernel
theorem dX10_level_11 : decode cX10_level 11 = .ok (.istore_n 3, 1) := by decide +kernel
theorem dX10_level_12 : decode cX10_level 12 = .ok (.iconst 0, 1) := by decide +kernel
theorem dX10_level_13 : decode cX10_level 13 = .ok (.istore 4, 2) := by decide +kernel
theorem dX10_level_15 : decode cX10_level 15 = .ok (.iload 4, 2) := by decide +kernel
theorem dX10_level_17 : decode cX10_level 17 = .ok (.bipush 12, 2) := by decide +kernel
theorem dX10_level_19 : decode cX10_level 19 = .ok (.if_icmp .ge 49, 3) := by decide +kernel
theorem dX10_level_22 : decode cX10_level 22 = .ok (.iload_n 2, 1) := by decide +kernel
theorem dX10_level_23 : decode cX10_level 23 = .ok (.aload_n 0, 1) := by decide +kernel
theorem dX10_level_24 : decode cX10_level 24 = .ok (.getfield 7, 3) := by decide +kernel
theorem dX10_level_27 : decode cX10_level 27 = .ok (.bipush 11, 2) := by decide +kernel
theorem dX10_level_29 : decode cX10_level 29 = .ok (.iload 4, 2) := by decide +kernel
theorem dX10_level_31 : decode cX10_level 31 = .ok (.iadd, 1) := by decide +kernel
theorem dX10_level_32 : decode cX10_level 32 = .ok (.iaload, 1) := by decide +kernel
theorem dX10_level_33 : decode cX10_level 33 = .ok (.iload_n 1, 1) := by decide +kernel
theorem dX10_level_34 : decode cX10_level 34 = .ok (.bipush 12, 2) := by decide +kernel
theorem dX10_level_36 : decode cX10_level 36 = .ok (.idiv, 1) := by decide +kernel
theorem dX10_level_37 : decode cX10_level 37 = .ok (.isub, 1) := by decide +kernel
theorem dX10_level_38 : decode cX10_level 38 = .ok (.iload 4, 2) := by decide +kernel
theorem dX10_level_40 : decode cX10_level 40 = .ok (.iload_n 1, 1) := by decide +kernel
theorem dX10_level_41 : decode cX10_level 41 = .ok (.bipush 12, 2) := by decide +kernel
theorem dX10_level_43 : decode cX10_level 43 = .ok (.irem, 1) := by decide +kernel
theorem dX10_level_44 : decode cX10_level 44 = .ok (.if_icmp .ge 7, 3) := by decide +kernel
theorem dX10_level_47 : decode cX10_level 47 = .ok (.iconst 1, 1) := by decide +kernel
theorem dX10_level_48 : decode cX10_level 48 = .ok (.goto 4, 3) := by decide +kernel
theorem dX10_level_51 : decode cX10_level 51 = .ok (.iconst 0, 1) := by decide +kernel
theorem dX10_level_52 : decode cX10_level 52 = .ok (.isub, 1) := by decide +kernel
theorem dX10_level_53 : decode cX10_level 53 = .ok (.iadd, 1) := by decide +kernel
theorem dX10_level_54 : decode cX10_level 54 = .ok (.istore_n 2, 1) := by decide +kernel
theorem dX10_level_55 : decode cX10_level 55 = .ok (.iload_n 3, 1) := by decide +kernel
theorem dX10_level_56 : decode cX10_level 56 = .ok (.iload_n 2, 1) := by decide +kernel
theorem dX10_level_57 : decode cX10_level 57 = .ok (.invokestatic 384, 3) := by decide +kernel
theorem dX10_level_60 : decode cX10_level 60 = .ok (.iadd, 1) := by decide +kernel
theorem dX10_level_61 : decode cX10_level 61 = .ok (.istore_n 3, 1) := by decide +kernel
theorem dX10_level_62 : decode cX10_level 62 = .ok (.iinc 4 1, 3) := by decide +kernel
theorem dX10_level_65 : decode cX10_level 65 = .ok (.goto (-50), 3) := by decide +kernel
theorem dX10_level_68 : decode cX10_level 68 = .ok (.iload_n 3, 1) := by decide +kernel
theorem dX10_level_69 : decode cX10_level 69 = .ok (.ireturn, 1) := by decide +kernel
theorem dX10_isShared_0 : decode cX10_isShared 0 = .ok (.bipush 12, 2) := by decide +kernel
theorem dX10_isShared_2 : decode cX10_isShared 2 = .ok (.iload_n 1, 1) := by decide +kernel
theorem dX10_isShared_3 : decode cX10_isShared 3 = .ok (.isub, 1) := by decide +kernel
theorem dX10_isShared_4 : decode cX10_isShared 4 = .ok (.iload_n 2, 1) := by decide +kernel
theorem dX10_isShared_5 : decode cX10_isShared 5 = .ok (.if_icmp .ge 5, 3) := by decide +kernel
theorem dX10_isShared_8 : decode cX10_isShared 8 = .ok (.iconst 0, 1) := by decide +kernel
theorem dX10_isShared_9 : decode cX10_isShared 9 = .ok (.ireturn, 1) := by decide +kernel
theorem dX10_isShared_10 : decode cX10_isShared 10 = .ok (.iconst 0, 1) := by decide +kernel
theorem dX10_isShared_11 : decode cX10_isShared 11 = .ok (.istore 4, 2) := by decide +kernel
theorem dX10_isShared_13 : decode cX10_isShared 13 = .ok (.iload_n 1, 1) := by decide +kernel
theorem dX10_isShared_14 : decode cX10_isShared 14 = .ok (.istore 5, 2) := by decide +kernel
theorem dX10_isShared_16 : decode cX10_isShared 16 = .ok (.iload 5, 2) := by decide +kernel
theorem dX10_isShared_18 : decode cX10_isShared 18 = .ok (.bipush 12, 2) := by decide +kernel
theorem dX10_isShared_20 : decode cX10_isShared 20 = .ok (.if_icmp .ge 70, 3) := by decide +kernel
theorem dX10_isShared_23 : decode cX10_isShared 23 = .ok (.iconst 0, 1) := by decide +kernel
theorem dX10_isShared_24 : decode cX10_isShared 24 = .ok (.istore 6, 2) := by decide +kernel
theorem dX10_isShared_26 : decode cX10_isShared 26 = .ok (.iload 5, 2) := by decide +kernel
theorem dX10_isShared_28 : decode cX10_isShared 28 = .ok (.istore 7, 2) := by decide +kernel
theorem dX10_isShared_30 : decode cX10_isShared 30 = .ok (.iload 5, 2) := by decide +kernel
theorem dX10_isShared_32 : decode cX10_isShared 32 = .ok (.bipush 12, 2) := by decide +kernel
theorem dX10_isShared_34 : decode cX10_isShared 34 = .ok (.if_icmp .ge 41, 3) := by decide +kernel
theorem dX10_isShared_37 : decode cX10_isShared 37 = .ok (.iload 6, 2) := by decide +kernel
theorem dX10_isShared_39 : decode cX10_isShared 39 = .ok (.aload_n 0, 1) := by decide +kernel
theorem dX10_isShared_40 : decode cX10_isShared 40 = .ok (.getfield 7, 3) := by decide +kernel
theorem dX10_isShared_43 : decode cX10_isShared 43 = .ok (.bipush 11, 2) := by decide +kernel
theorem dX10_isShared_45 : decode cX10_isShared 45 = .ok (.iload 5, 2) := by decide +kernel
theorem dX10_isShared_47 : decode cX10_isShared 47 = .ok (.iadd, 1) := by decide +kernel
theorem dX10_isShared_48 : decode cX10_isShared 48 = .ok (.iaload, 1) := by decide +kernel
theorem dX10_isShared_49 : decode cX10_isShared 49 = .ok (.iadd, 1) := by decide +kernel
theorem dX10_isShared_50 : decode cX10_isShared 50 = .ok (.iload_n 3, 1) := by decide +kernel
theorem dX10_isShared_51 : decode cX10_isShared 51 = .ok (.if_icmp .gt 24, 3) := by decide +kernel
theorem dX10_isShared_54 : decode cX10_isShared 54 = .ok (.iload 6, 2) := by decide +kernel
theorem dX10_isShared_56 : decode cX10_isShared 56 = .ok (.aload_n 0, 1) := by decide +kernel
theorem dX10_isShared_57 : decode cX10_isShared 57 = .ok (.getfield 7, 3) := by decide +kernel
theorem dX10_isShared_60 : decode cX10_isShared 60 = .ok (.bipush 11, 2) := by decide +kernel
theorem dX10_isShared_62 : decode cX10_isShared 62 = .ok (.iload 5, 2) := by decide +kernel
theorem dX10_isShared_64 : decode cX10_isShared 64 = .ok (.iadd, 1) := by decide +kernel
theorem dX10_isShared_65 : decode cX10_isShared 65 = .ok (.iaload, 1) := by decide +kernel
theorem dX10_isShared_66 : decode cX10_isShared 66 = .ok (.iadd, 1) := by decide +kernel
theorem dX10_isShared_67 : decode cX10_isShared 67 = .ok (.istore 6, 2) := by decide +kernel
theorem dX10_isShared_69 : decode cX10_isShared 69 = .ok (.iinc 5 1, 3) := by decide +kernel
theorem dX10_isShared_72 : decode cX10_isShared 72 = .ok (.goto (-42), 3) := by decide +kernel
theorem dX10_isShared_75 : decode cX10_isShared 75 = .ok (.iload 5, 2) := by decide +kernel
theorem dX10_isShared_77 : decode cX10_isShared 77 = .ok (.iload 7, 2) := by decide +kernel
theorem dX10_isShared_79 : decode cX10_isShared 79 = .ok (.if_icmp .ne 5, 3) := by decide +kernel
theorem dX10_isShared_82 : decode cX10_isShared 82 = .ok (.iconst 0, 1) := by decide +kernel
theorem dX10_isShared_83 : decode cX10_isShared 83 = .ok (.ireturn, 1) := by decide +kernel
theorem dX10_isShared_84 : decode cX10_isShared 84 = .ok (.iinc 4 1, 3) := by decide +kernel
theorem dX10_isShared_87 : decode cX10_isShared 87 = .ok (.goto (-71), 3) := by decide +kernel
theorem dX10_isShared_90 : decode cX10_isShared 90 = .ok (.iload 4, 2) := by decide +kernel
theorem dX10_isShared_92 : decode cX10_isShared 92 = .ok (.iload_n 2, 1) := by decide +kernel
theorem dX10_isShared_93 : decode cX10_isShared 93 = .ok (.if_icmp .gt 7, 3) := by decide +kernel
theorem dX10_isShared_96 : decode cX10_isShared 96 = .ok (.iconst 1, 1) := by decide +kernel
theorem dX10_isShared_97 : decode cX10_isShared 97 = .ok (.goto 4, 3) := by decide +kernel
theorem dX10_isShared_100 : decode cX10_isShared 100 = .ok (.iconst 0, 1) := by decide +kernel
theorem dX10_isShared_101 : decode cX10_isShared 101 = .ok (.ireturn, 1) := by decide +kernel
theorem dX10_shared_0 : decode cX10_shared 0 = .ok (.iload_n 1, 1) := by decide +kernel
theorem dX10_shared_1 : decode cX10_shared 1 = .ok (.iconst 1, 1) := by decide +kernel
theorem dX10_shared_2 : decode cX10_shared 2 = .ok (.bipush 6, 2) := by decide +kernel
theorem dX10_shared_4 : decode cX10_shared 4 = .ok (.invokestatic 63, 3) := by decide +kernel
theorem dX10_shared_7 : decode cX10_shared 7 = .ok (.ifCond .eq 14, 3) := by decide +kernel
theorem dX10_shared_10 : decode cX10_shared 10 = .ok (.iload_n 2, 1) := by decide +kernel
theorem dX10_shared_11 : decode cX10_shared 11 = .ok (.iconst (-1), 1) := by decide +kernel
theorem dX10_shared_12 : decode cX10_shared 12 = .ok (.iload_n 1, 1) := by decide +kernel
theorem dX10_shared_13 : decode cX10_shared 13 = .ok (.iconst 1, 1) := by decide +kernel
theorem dX10_shared_14 : decode cX10_shared 14 = .ok (.isub, 1) := by decide +kernel
theorem dX10_shared_15 : decode cX10_shared 15 = .ok (.invokestatic 63, 3) := by decide +kernel
theorem dX10_shared_18 : decode cX10_shared 18 = .ok (.ifCond .ne 6, 3) := by decide +kernel
theorem dX10_shared_21 : decode cX10_shared 21 = .ok (.bipush (-2), 2) := by decide +kernel
theorem dX10_shared_23 : decode cX10_shared 23 = .ok (.ireturn, 1) := by decide +kernel
theorem dX10_shared_24 : decode cX10_shared 24 = .ok (.aload_n 0, 1) := by decide +kernel
theorem dX10_shared_25 : decode cX10_shared 25 = .ok (.iconst 0, 1) := by decide +kernel
theorem dX10_shared_26 : decode cX10_shared 26 = .ok (.bipush 12, 2) := by decide +kernel
theorem dX10_shared_28 : decode cX10_shared 28 = .ok (.invokevirtual 378, 3) := by decide +kernel
theorem dX10_shared_31 : decode cX10_shared 31 = .ok (.istore_n 3, 1) := by decide +kernel
theorem dX10_shared_32 : decode cX10_shared 32 = .ok (.aload_n 0, 1) := by decide +kernel
theorem dX10_shared_33 : decode cX10_shared 33 = .ok (.iconst 0, 1) := by decide +kernel
theorem dX10_shared_34 : decode cX10_shared 34 = .ok (.iload_n 1, 1) := by decide +kernel
theorem dX10_shared_35 : decode cX10_shared 35 = .ok (.iload_n 3, 1) := by decide +kernel
theorem dX10_shared_36 : decode cX10_shared 36 = .ok (.invokevirtual 387, 3) := by decide +kernel
theorem dX10_shared_39 : decode cX10_shared 39 = .ok (.ifCond .ne 9, 3) := by decide +kernel
theorem dX10_shared_42 : decode cX10_shared 42 = .ok (.iinc 3 1, 3) := by decide +kernel
theorem dX10_shared_45 : decode cX10_shared 45 = .ok (.goto (-13), 3) := by decide +kernel
theorem dX10_shared_48 : decode cX10_shared 48 = .ok (.iload_n 2, 1) := by decide +kernel
theorem dX10_shared_49 : decode cX10_shared 49 = .ok (.iconst (-1), 1) := by decide +kernel
theorem dX10_shared_50 : decode cX10_shared 50 = .ok (.if_icmp .ne 5, 3) := by decide +kernel
theorem dX10_shared_53 : decode cX10_shared 53 = .ok (.iload_n 3, 1) := by decide +kernel
theorem dX10_shared_54 : decode cX10_shared 54 = .ok (.ireturn, 1) := by decide +kernel
theorem dX10_shared_55 : decode cX10_shared 55 = .ok (.iconst 0, 1) := by decide +kernel
theorem dX10_shared_56 : decode cX10_shared 56 = .ok (.istore 4, 2) := by decide +kernel
theorem dX10_shared_58 : decode cX10_shared 58 = .ok (.iconst 0, 1) := by decide +kernel
theorem dX10_shared_59 : decode cX10_shared 59 = .ok (.istore 5, 2) := by decide +kernel
theorem dX10_shared_61 : decode cX10_shared 61 = .ok (.iload 5, 2) := by decide +kernel
theorem dX10_shared_63 : decode cX10_shared 63 = .ok (.iload_n 2, 1) := by decide +kernel
theorem dX10_shared_64 : decode cX10_shared 64 = .ok (.if_icmp .ge 34, 3) := by decide +kernel
theorem dX10_shared_67 : decode cX10_shared 67 = .ok (.iinc 4 1, 3) := by decide +kernel
theorem dX10_shared_70 : decode cX10_shared 70 = .ok (.aload_n 0, 1) := by decide +kernel
theorem dX10_shared_71 : decode cX10_shared 71 = .ok (.iload 4, 2) := by decide +kernel
theorem dX10_shared_73 : decode cX10_shared 73 = .ok (.iload_n 1, 1) := by decide +kernel
theorem dX10_shared_74 : decode cX10_shared 74 = .ok (.iconst 1, 1) := by decide +kernel
theorem dX10_shared_75 : decode cX10_shared 75 = .ok (.isub, 1) := by decide +kernel
theorem dX10_shared_76 : decode cX10_shared 76 = .ok (.iload 5, 2) := by decide +kernel
theorem dX10_shared_78 : decode cX10_shared 78 = .ok (.isub, 1) := by decide +kernel
theorem dX10_shared_79 : decode cX10_shared 79 = .ok (.iload_n 3, 1) := by decide +kernel
theorem dX10_shared_80 : decode cX10_shared 80 = .ok (.invokevirtual 387, 3) := by decide +kernel
theorem dX10_shared_83 : decode cX10_shared 83 = .ok (.ifCond .ne 9, 3) := by decide +kernel
theorem dX10_shared_86 : decode cX10_shared 86 = .ok (.iinc 4 1, 3) := by decide +kernel
theorem dX10_shared_89 : decode cX10_shared 89 = .ok (.goto (-19), 3) := by decide +kernel
theorem dX10_shared_92 : decode cX10_shared 92 = .ok (.iinc 5 1, 3) := by decide +kernel
theorem dX10_shared_95 : decode cX10_shared 95 = .ok (.goto (-34), 3) := by decide +kernel
theorem dX10_shared_98 : decode cX10_shared 98 = .ok (.iload 4, 2) := by decide +kernel
theorem dX10_shared_100 : decode cX10_shared 100 = .ok (.ireturn, 1) := by decide +kernel
theorem dX10_layGames_0 : decode cX10_layGames 0 = .ok (.iconst 1, 1) := by decide +kernel
theorem dX10_layGames_1 : decode cX10_layGames 1 = .ok (.istore_n 1, 1) := by decide +kernel
theorem dX10_layGames_2 : decode cX10_layGames 2 = .ok (.iload_n 1, 1) := by decide +kernel
theorem dX10_layGames_3 : decode cX10_layGames 3 = .ok (.bipush 12, 2) := by decide +kernel
theorem dX10_layGames_5 : decode cX10_layGames 5 = .ok (.if_icmp .gt 124, 3) := by decide +kernel
theorem dX10_layGames_8 : decode cX10_layGames 8 = .ok (.iconst 0, 1) := by decide +kernel
theorem dX10_layGames_9 : decode cX10_layGames 9 = .ok (.istore_n 2, 1) := by decide +kernel
theorem dX10_layGames_10 : decode cX10_layGames 10 = .ok (.iload_n 2, 1) := by decide +kernel
theorem dX10_layGames_11 : decode cX10_layGames 11 = .ok (.iload_n 1, 1) := by decide +kernel
theorem dX10_layGames_12 : decode cX10_layGames 12 = .ok (.iadd, 1) := by decide +kernel
theorem dX10_layGames_13 : decode cX10_layGames 13 = .ok (.bipush 12, 2) := by decide +kernel
theorem dX10_layGames_15 : decode cX10_layGames 15 = .ok (.if_icmp .gt 108, 3) := by decide +kernel
theorem dX10_layGames_18 : decode cX10_layGames 18 = .ok (.iload_n 2, 1) := by decide +kernel
theorem dX10_layGames_19 : decode cX10_layGames 19 = .ok (.iload_n 1, 1) := by decide +kernel
theorem dX10_layGames_20 : decode cX10_layGames 20 = .ok (.iadd, 1) := by decide +kernel
theorem dX10_layGames_21 : decode cX10_layGames 21 = .ok (.iconst 1, 1) := by decide +kernel
theorem dX10_layGames_22 : decode cX10_layGames 22 = .ok (.isub, 1) := by decide +kernel
theorem dX10_layGames_23 : decode cX10_layGames 23 = .ok (.istore_n 3, 1) := by decide +kernel
theorem dX10_layGames_24 : decode cX10_layGames 24 = .ok (.aload_n 0, 1) := by decide +kernel
theorem dX10_layGames_25 : decode cX10_layGames 25 = .ok (.getfield 7, 3) := by decide +kernel
theorem dX10_layGames_28 : decode cX10_layGames 28 = .ok (.bipush 11, 2) := by decide +kernel
theorem dX10_layGames_30 : decode cX10_layGames 30 = .ok (.iload_n 2, 1) := by decide +kernel
theorem dX10_layGames_31 : decode cX10_layGames 31 = .ok (.iadd, 1) := by decide +kernel
theorem dX10_layGames_32 : decode cX10_layGames 32 = .ok (.iaload, 1) := by decide +kernel
theorem dX10_layGames_33 : decode cX10_layGames 33 = .ok (.iload_n 1, 1) := by decide +kernel
theorem dX10_layGames_34 : decode cX10_layGames 34 = .ok (.iconst 1, 1) := by decide +kernel
theorem dX10_layGames_35 : decode cX10_layGames 35 = .ok (.if_icmp .ne 7, 3) := by decide +kernel
theorem dX10_layGames_38 : decode cX10_layGames 38 = .ok (.iconst 0, 1) := by decide +kernel
theorem dX10_layGames_39 : decode cX10_layGames 39 = .ok (.goto 16, 3) := by decide +kernel
theorem dX10_layGames_42 : decode cX10_layGames 42 = .ok (.aload_n 0, 1) := by decide +kernel
theorem dX10_layGames_43 : decode cX10_layGames 43 = .ok (.getfield 53, 3) := by decide +kernel
theorem dX10_layGames_46 : decode cX10_layGames 46 = .ok (.bipush 12, 2) := by decide +kernel
theorem dX10_layGames_48 : decode cX10_layGames 48 = .ok (.iload_n 2, 1) := by decide +kernel
theorem dX10_layGames_49 : decode cX10_layGames 49 = .ok (.iconst 1, 1) := by decide +kernel
theorem dX10_layGames_50 : decode cX10_layGames 50 = .ok (.iadd, 1) := by decide +kernel
theorem dX10_layGames_51 : decode cX10_layGames 51 = .ok (.imul, 1) := by decide +kernel
theorem dX10_layGames_52 : decode cX10_layGames 52 = .ok (.iload_n 3, 1) := by decide +kernel
theorem dX10_layGames_53 : decode cX10_layGames 53 = .ok (.iadd, 1) := by decide +kernel
theorem dX10_layGames_54 : decode cX10_layGames 54 = .ok (.iaload, 1) := by decide +kernel
theorem dX10_layGames_55 : decode cX10_layGames 55 = .ok (.isub, 1) := by decide +kernel
theorem dX10_layGames_56 : decode cX10_layGames 56 = .ok (.istore 4, 2) := by decide +kernel
theorem dX10_layGames_58 : decode cX10_layGames 58 = .ok (.aload_n 0, 1) := by decide +kernel
theorem dX10_layGames_59 : decode cX10_layGames 59 = .ok (.getfield 7, 3) := by decide +kernel
theorem dX10_layGames_62 : decode cX10_layGames 62 = .ok (.bipush 11, 2) := by decide +kernel
theorem dX10_layGames_64 : decode cX10_layGames 64 = .ok (.iload_n 3, 1) := by decide +kernel
theorem dX10_layGames_65 : decode cX10_layGames 65 = .ok (.iadd, 1) := by decide +kernel
theorem dX10_layGames_66 : decode cX10_layGames 66 = .ok (.iaload, 1) := by decide +kernel
theorem dX10_layGames_67 : decode cX10_layGames 67 = .ok (.iload_n 1, 1) := by decide +kernel
theorem dX10_layGames_68 : decode cX10_layGames 68 = .ok (.iconst 1, 1) := by decide +kernel
theorem dX10_layGames_69 : decode cX10_layGames 69 = .ok (.if_icmp .ne 7, 3) := by decide +kernel
theorem dX10_layGames_72 : decode cX10_layGames 72 = .ok (.iconst 0, 1) := by decide +kernel
theorem dX10_layGames_73 : decode cX10_layGames 73 = .ok (.goto 16, 3) := by decide +kernel
theorem dX10_layGames_76 : decode cX10_layGames 76 = .ok (.aload_n 0, 1) := by decide +kernel
theorem dX10_layGames_77 : decode cX10_layGames 77 = .ok (.getfield 53, 3) := by decide +kernel
theorem dX10_layGames_80 : decode cX10_layGames 80 = .ok (.bipush 12, 2) := by decide +kernel
theorem dX10_layGames_82 : decode cX10_layGames 82 = .ok (.iload_n 2, 1) := by decide +kernel
theorem dX10_layGames_83 : decode cX10_layGames 83 = .ok (.imul, 1) := by decide +kernel
theorem dX10_layGames_84 : decode cX10_layGames 84 = .ok (.iload_n 3, 1) := by decide +kernel
theorem dX10_layGames_85 : decode cX10_layGames 85 = .ok (.iadd, 1) := by decide +kernel
theorem dX10_layGames_86 : decode cX10_layGames 86 = .ok (.iconst 1, 1) := by decide +kernel
theorem dX10_layGames_87 : decode cX10_layGames 87 = .ok (.isub, 1) := by decide +kernel
theorem dX10_layGames_88 : decode cX10_layGames 88 = .ok (.iaload, 1) := by decide +kernel
theorem dX10_layGames_89 : decode cX10_layGames 89 = .ok (.isub, 1) := by decide +kernel
theorem dX10_layGames_90 : decode cX10_layGames 90 = .ok (.istore 5, 2) := by decide +kernel
theorem dX10_layGames_92 : decode cX10_layGames 92 = .ok (.aload_n 0, 1) := by decide +kernel
theorem dX10_layGames_93 : decode cX10_layGames 93 = .ok (.getfield 53, 3) := by decide +kernel
theorem dX10_layGames_96 : decode cX10_layGames 96 = .ok (.bipush 12, 2) := by decide +kernel
theorem dX10_layGames_98 : decode cX10_layGames 98 = .ok (.iload_n 2, 1) := by decide +kernel
theorem dX10_layGames_99 : decode cX10_layGames 99 = .ok (.imul, 1) := by decide +kernel
theorem dX10_layGames_100 : decode cX10_layGames 100 = .ok (.iload_n 3, 1) := by decide +kernel
theorem dX10_layGames_101 : decode cX10_layGames 101 = .ok (.iadd, 1) := by decide +kernel
theorem dX10_layGames_102 : decode cX10_layGames 102 = .ok (.iload 4, 2) := by decide +kernel
theorem dX10_layGames_104 : decode cX10_layGames 104 = .ok (.iload 5, 2) := by decide +kernel
theorem dX10_layGames_106 : decode cX10_layGames 106 = .ok (.if_icmp .lt 8, 3) := by decide +kernel
theorem dX10_layGames_109 : decode cX10_layGames 109 = .ok (.iload 4, 2) := by decide +kernel
theorem dX10_layGames_111 : decode cX10_layGames 111 = .ok (.goto 5, 3) := by decide +kernel
theorem dX10_layGames_114 : decode cX10_layGames 114 = .ok (.iload 5, 2) := by decide +kernel
theorem dX10_layGames_116 : decode cX10_layGames 116 = .ok (.iastore, 1) := by decide +kernel
theorem dX10_layGames_117 : decode cX10_layGames 117 = .ok (.iinc 2 1, 3) := by decide +kernel
theorem dX10_layGames_120 : decode cX10_layGames 120 = .ok (.goto (-110), 3) := by decide +kernel
theorem dX10_layGames_123 : decode cX10_layGames 123 = .ok (.iinc 1 1, 3) := by decide +kernel
theorem dX10_layGames_126 : decode cX10_layGames 126 = .ok (.goto (-124), 3) := by decide +kernel
theorem dX10_layGames_129 : decode cX10_layGames 129 = .ok (.return_, 1) := by decide +kernel
theorem dX10_areCells_0 : decode cX10_areCells 0 = .ok (.iload_n 0, 1) := by decide +kernel
theorem dX10_areCells_1 : decode cX10_areCells 1 = .ok (.invokestatic 67, 3) := by decide +kernel
theorem dX10_areCells_4 : decode cX10_areCells 4 = .ok (.ifCond .eq 19, 3) := by decide +kernel
theorem dX10_areCells_7 : decode cX10_areCells 7 = .ok (.iload_n 1, 1) := by decide +kernel
theorem dX10_areCells_8 : decode cX10_areCells 8 = .ok (.invokestatic 67, 3) := by decide +kernel
theorem dX10_areCells_11 : decode cX10_areCells 11 = .ok (.ifCond .eq 12, 3) := by decide +kernel
theorem dX10_areCells_14 : decode cX10_areCells 14 = .ok (.iload_n 0, 1) := by decide +kernel
theorem dX10_areCells_15 : decode cX10_areCells 15 = .ok (.iload_n 1, 1) := by decide +kernel
theorem dX10_areCells_16 : decode cX10_areCells 16 = .ok (.if_icmp .gt 7, 3) := by decide +kernel
theorem dX10_areCells_19 : decode cX10_areCells 19 = .ok (.iconst 1, 1) := by decide +kernel
theorem dX10_areCells_20 : decode cX10_areCells 20 = .ok (.goto 4, 3) := by decide +kernel
theorem dX10_areCells_23 : decode cX10_areCells 23 = .ok (.iconst 0, 1) := by decide +kernel
theorem dX10_areCells_24 : decode cX10_areCells 24 = .ok (.ireturn, 1) := by decide +kernel
theorem dX10_ends_0 : decode cX10_ends 0 = .ok (.iload_n 1, 1) := by decide +kernel
theorem dX10_ends_1 : decode cX10_ends 1 = .ok (.iload_n 2, 1) := by decide +kernel
theorem dX10_ends_2 : decode cX10_ends 2 = .ok (.invokestatic 390, 3) := by decide +kernel
theorem dX10_ends_5 : decode cX10_ends 5 = .ok (.ifCond .ne 7, 3) := by decide +kernel
theorem dX10_ends_8 : decode cX10_ends 8 = .ok (.sipush (-9999), 3) := by decide +kernel
theorem dX10_ends_11 : decode cX10_ends 11 = .ok (.ireturn, 1) := by decide +kernel
theorem dX10_ends_12 : decode cX10_ends 12 = .ok (.aload_n 0, 1) := by decide +kernel
theorem dX10_ends_13 : decode cX10_ends 13 = .ok (.invokevirtual 393, 3) := by decide +kernel
theorem dX10_ends_16 : decode cX10_ends 16 = .ok (.aload_n 0, 1) := by decide +kernel
theorem dX10_ends_17 : decode cX10_ends 17 = .ok (.getfield 53, 3) := by decide +kernel
theorem dX10_ends_20 : decode cX10_ends 20 = .ok (.bipush 12, 2) := by decide +kernel
theorem dX10_ends_22 : decode cX10_ends 22 = .ok (.iload_n 1, 1) := by decide +kernel
theorem dX10_ends_23 : decode cX10_ends 23 = .ok (.imul, 1) := by decide +kernel
theorem dX10_ends_24 : decode cX10_ends 24 = .ok (.iload_n 2, 1) := by decide +kernel
theorem dX10_ends_25 : decode cX10_ends 25 = .ok (.iadd, 1) := by decide +kernel
theorem dX10_ends_26 : decode cX10_ends 26 = .ok (.iaload, 1) := by decide +kernel
theorem dX10_ends_27 : decode cX10_ends 27 = .ok (.ireturn, 1) := by decide +kernel
theorem dX10_endsFirst_0 : decode cX10_endsFirst 0 = .ok (.iload_n 1, 1) := by decide +kernel
theorem dX10_endsFirst_1 : decode cX10_endsFirst 1 = .ok (.iload_n 2, 1) := by decide +kernel
theorem dX10_endsFirst_2 : decode cX10_endsFirst 2 = .ok (.invokestatic 390, 3) := by decide +kernel
theorem dX10_endsFirst_5 : decode cX10_endsFirst 5 = .ok (.ifCond .ne 5, 3) := by decide +kernel
theorem dX10_endsFirst_8 : decode cX10_endsFirst 8 = .ok (.iconst (-1), 1) := by decide +kernel
theorem dX10_endsFirst_9 : decode cX10_endsFirst 9 = .ok (.ireturn, 1) := by decide +kernel
theorem dX10_endsFirst_10 : decode cX10_endsFirst 10 = .ok (.aload_n 0, 1) := by decide +kernel
theorem dX10_endsFirst_11 : decode cX10_endsFirst 11 = .ok (.invokevirtual 393, 3) := by decide +kernel
theorem dX10_endsFirst_14 : decode cX10_endsFirst 14 = .ok (.iload_n 1, 1) := by decide +kernel
theorem dX10_endsFirst_15 : decode cX10_endsFirst 15 = .ok (.iload_n 2, 1) := by decide +kernel
theorem dX10_endsFirst_16 : decode cX10_endsFirst 16 = .ok (.if_icmp .eq 40, 3) := by decide +kernel
theorem dX10_endsFirst_19 : decode cX10_endsFirst 19 = .ok (.aload_n 0, 1) := by decide +kernel
theorem dX10_endsFirst_20 : decode cX10_endsFirst 20 = .ok (.getfield 7, 3) := by decide +kernel
theorem dX10_endsFirst_23 : decode cX10_endsFirst 23 = .ok (.bipush 11, 2) := by decide +kernel
theorem dX10_endsFirst_25 : decode cX10_endsFirst 25 = .ok (.iload_n 1, 1) := by decide +kernel
theorem dX10_endsFirst_26 : decode cX10_endsFirst 26 = .ok (.iadd, 1) := by decide +kernel
theorem dX10_endsFirst_27 : decode cX10_endsFirst 27 = .ok (.iaload, 1) := by decide +kernel
theorem dX10_endsFirst_28 : decode cX10_endsFirst 28 = .ok (.aload_n 0, 1) := by decide +kernel
theorem dX10_endsFirst_29 : decode cX10_endsFirst 29 = .ok (.getfield 53, 3) := by decide +kernel
theorem dX10_endsFirst_32 : decode cX10_endsFirst 32 = .ok (.bipush 12, 2) := by decide +kernel
theorem dX10_endsFirst_34 : decode cX10_endsFirst 34 = .ok (.iload_n 1, 1) := by decide +kernel
theorem dX10_endsFirst_35 : decode cX10_endsFirst 35 = .ok (.iconst 1, 1) := by decide +kernel
theorem dX10_endsFirst_36 : decode cX10_endsFirst 36 = .ok (.iadd, 1) := by decide +kernel
theorem dX10_endsFirst_37 : decode cX10_endsFirst 37 = .ok (.imul, 1) := by decide +kernel
theorem dX10_endsFirst_38 : decode cX10_endsFirst 38 = .ok (.iload_n 2, 1) := by decide +kernel
theorem dX10_endsFirst_39 : decode cX10_endsFirst 39 = .ok (.iadd, 1) := by decide +kernel
theorem dX10_endsFirst_40 : decode cX10_endsFirst 40 = .ok (.iaload, 1) := by decide +kernel
theorem dX10_endsFirst_41 : decode cX10_endsFirst 41 = .ok (.isub, 1) := by decide +kernel
theorem dX10_endsFirst_42 : decode cX10_endsFirst 42 = .ok (.aload_n 0, 1) := by decide +kernel
theorem dX10_endsFirst_43 : decode cX10_endsFirst 43 = .ok (.getfield 53, 3) := by decide +kernel
theorem dX10_endsFirst_46 : decode cX10_endsFirst 46 = .ok (.bipush 12, 2) := by decide +kernel
theorem dX10_endsFirst_48 : decode cX10_endsFirst 48 = .ok (.iload_n 1, 1) := by decide +kernel
theorem dX10_endsFirst_49 : decode cX10_endsFirst 49 = .ok (.imul, 1) := by decide +kernel
theorem dX10_endsFirst_50 : decode cX10_endsFirst 50 = .ok (.iload_n 2, 1) := by decide +kernel
theorem dX10_endsFirst_51 : decode cX10_endsFirst 51 = .ok (.iadd, 1) := by decide +kernel
theorem dX10_endsFirst_52 : decode cX10_endsFirst 52 = .ok (.iaload, 1) := by decide +kernel
theorem dX10_endsFirst_53 : decode cX10_endsFirst 53 = .ok (.if_icmp .ne 7, 3) := by decide +kernel
theorem dX10_endsFirst_56 : decode cX10_endsFirst 56 = .ok (.iload_n 1, 1) := by decide +kernel
theorem dX10_endsFirst_57 : decode cX10_endsFirst 57 = .ok (.goto 4, 3) := by decide +kernel
theorem dX10_endsFirst_60 : decode cX10_endsFirst 60 = .ok (.iload_n 2, 1) := by decide +kernel
theorem dX10_endsFirst_61 : decode cX10_endsFirst 61 = .ok (.ireturn, 1) := by decide +kernel
theorem dX10_patches_0 : decode cX10_patches 0 = .ok (.iload_n 1, 1) := by decide +kernel
theorem dX10_patches_1 : decode cX10_patches 1 = .ok (.iconst 1, 1) := by decide +kernel
theorem dX10_patches_2 : decode cX10_patches 2 = .ok (.bipush 6, 2) := by decide +kernel
theorem dX10_patches_4 : decode cX10_patches 4 = .ok (.invokestatic 63, 3) := by decide +kernel
theorem dX10_patches_7 : decode cX10_patches 7 = .ok (.ifCond .eq 13, 3) := by decide +kernel
theorem dX10_patches_10 : decode cX10_patches 10 = .ok (.iload_n 2, 1) := by decide +kernel
theorem dX10_patches_11 : decode cX10_patches 11 = .ok (.iconst 1, 1) := by decide +kernel
theorem dX10_patches_12 : decode cX10_patches 12 = .ok (.bipush 6, 2) := by decide +kernel
theorem dX10_patches_14 : decode cX10_patches 14 = .ok (.invokestatic 63, 3) := by decide +kernel
theorem dX10_patches_17 : decode cX10_patches 17 = .ok (.ifCond .ne 5, 3) := by decide +kernel
theorem dX10_patches_20 : decode cX10_patches 20 = .ok (.iconst (-1), 1) := by decide +kernel
theorem dX10_patches_21 : decode cX10_patches 21 = .ok (.ireturn, 1) := by decide +kernel
theorem dX10_patches_22 : decode cX10_patches 22 = .ok (.bipush 18, 2) := by decide +kernel
theorem dX10_patches_24 : decode cX10_patches 24 = .ok (.istore 4, 2) := by decide +kernel
theorem dX10_patches_26 : decode cX10_patches 26 = .ok (.iload 4, 2) := by decide +kernel
theorem dX10_patches_28 : decode cX10_patches 28 = .ok (.ifCond .lt 119, 3) := by decide +kernel
theorem dX10_patches_31 : decode cX10_patches 31 = .ok (.aload_n 0, 1) := by decide +kernel
theorem dX10_patches_32 : decode cX10_patches 32 = .ok (.getfield 56, 3) := by decide +kernel
theorem dX10_patches_35 : decode cX10_patches 35 = .ok (.iload 4, 2) := by decide +kernel
theorem dX10_patches_37 : decode cX10_patches 37 = .ok (.iconst 0, 1) := by decide +kernel
theorem dX10_patches_38 : decode cX10_patches 38 = .ok (.iastore, 1) := by decide +kernel
theorem dX10_patches_39 : decode cX10_patches 39 = .ok (.iload 4, 2) := by decide +kernel
theorem dX10_patches_41 : decode cX10_patches 41 = .ok (.bipush 12, 2) := by decide +kernel
theorem dX10_patches_43 : decode cX10_patches 43 = .ok (.if_icmp .lt 6, 3) := by decide +kernel
theorem dX10_patches_46 : decode cX10_patches 46 = .ok (.goto 95, 3) := by decide +kernel
theorem dX10_patches_49 : decode cX10_patches 49 = .ok (.aload_n 0, 1) := by decide +kernel
theorem dX10_patches_50 : decode cX10_patches 50 = .ok (.getfield 56, 3) := by decide +kernel
theorem dX10_patches_53 : decode cX10_patches 53 = .ok (.iload 4, 2) := by decide +kernel
theorem dX10_patches_55 : decode cX10_patches 55 = .ok (.iload_n 1, 1) := by decide +kernel
theorem dX10_patches_56 : decode cX10_patches 56 = .ok (.iadd, 1) := by decide +kernel
theorem dX10_patches_57 : decode cX10_patches 57 = .ok (.iaload, 1) := by decide +kernel
theorem dX10_patches_58 : decode cX10_patches 58 = .ok (.iload_n 3, 1) := by decide +kernel
theorem dX10_patches_59 : decode cX10_patches 59 = .ok (.ifCond .eq 9, 3) := by decide +kernel
theorem dX10_patches_62 : decode cX10_patches 62 = .ok (.iload_n 1, 1) := by decide +kernel
theorem dX10_patches_63 : decode cX10_patches 63 = .ok (.iconst 2, 1) := by decide +kernel
theorem dX10_patches_64 : decode cX10_patches 64 = .ok (.iadd, 1) := by decide +kernel
theorem dX10_patches_65 : decode cX10_patches 65 = .ok (.goto 4, 3) := by decide +kernel
theorem dX10_patches_68 : decode cX10_patches 68 = .ok (.iconst 1, 1) := by decide +kernel
theorem dX10_patches_69 : decode cX10_patches 69 = .ok (.iadd, 1) := by decide +kernel
theorem dX10_patches_70 : decode cX10_patches 70 = .ok (.istore 5, 2) := by decide +kernel
theorem dX10_patches_72 : decode cX10_patches 72 = .ok (.aload_n 0, 1) := by decide +kernel
theorem dX10_patches_73 : decode cX10_patches 73 = .ok (.getfield 56, 3) := by decide +kernel
theorem dX10_patches_76 : decode cX10_patches 76 = .ok (.iload 4, 2) := by decide +kernel
theorem dX10_patches_78 : decode cX10_patches 78 = .ok (.iload_n 2, 1) := by decide +kernel
theorem dX10_patches_79 : decode cX10_patches 79 = .ok (.iadd, 1) := by decide +kernel
theorem dX10_patches_80 : decode cX10_patches 80 = .ok (.iaload, 1) := by decide +kernel
theorem dX10_patches_81 : decode cX10_patches 81 = .ok (.iload_n 3, 1) := by decide +kernel
theorem dX10_patches_82 : decode cX10_patches 82 = .ok (.ifCond .eq 9, 3) := by decide +kernel
theorem dX10_patches_85 : decode cX10_patches 85 = .ok (.iload_n 2, 1) := by decide +kernel
theorem dX10_patches_86 : decode cX10_patches 86 = .ok (.iconst 2, 1) := by decide +kernel
theorem dX10_patches_87 : decode cX10_patches 87 = .ok (.iadd, 1) := by decide +kernel
theorem dX10_patches_88 : decode cX10_patches 88 = .ok (.goto 4, 3) := by decide +kernel
theorem dX10_patches_91 : decode cX10_patches 91 = .ok (.iconst 1, 1) := by decide +kernel
theorem dX10_patches_92 : decode cX10_patches 92 = .ok (.iadd, 1) := by decide +kernel
theorem dX10_patches_93 : decode cX10_patches 93 = .ok (.istore 6, 2) := by decide +kernel
theorem dX10_patches_95 : decode cX10_patches 95 = .ok (.aload_n 0, 1) := by decide +kernel
theorem dX10_patches_96 : decode cX10_patches 96 = .ok (.getfield 56, 3) := by decide +kernel
theorem dX10_patches_99 : decode cX10_patches 99 = .ok (.iload 4, 2) := by decide +kernel
theorem dX10_patches_101 : decode cX10_patches 101 = .ok (.aload_n 0, 1) := by decide +kernel
theorem dX10_patches_102 : decode cX10_patches 102 = .ok (.getfield 7, 3) := by decide +kernel
theorem dX10_patches_105 : decode cX10_patches 105 = .ok (.bipush 23, 2) := by decide +kernel
theorem dX10_patches_107 : decode cX10_patches 107 = .ok (.iload 4, 2) := by decide +kernel
theorem dX10_patches_109 : decode cX10_patches 109 = .ok (.iadd, 1) := by decide +kernel
theorem dX10_patches_110 : decode cX10_patches 110 = .ok (.iaload, 1) := by decide +kernel
theorem dX10_patches_111 : decode cX10_patches 111 = .ok (.ifCond .ne 15, 3) := by decide +kernel
theorem dX10_patches_114 : decode cX10_patches 114 = .ok (.aload_n 0, 1) := by decide +kernel
theorem dX10_patches_115 : decode cX10_patches 115 = .ok (.getfield 56, 3) := by decide +kernel
theorem dX10_patches_118 : decode cX10_patches 118 = .ok (.iload 4, 2) := by decide +kernel
theorem dX10_patches_120 : decode cX10_patches 120 = .ok (.iconst 1, 1) := by decide +kernel
theorem dX10_patches_121 : decode cX10_patches 121 = .ok (.iadd, 1) := by decide +kernel
theorem dX10_patches_122 : decode cX10_patches 122 = .ok (.iaload, 1) := by decide +kernel
theorem dX10_patches_123 : decode cX10_patches 123 = .ok (.goto 17, 3) := by decide +kernel
theorem dX10_patches_126 : decode cX10_patches 126 = .ok (.iload 5, 2) := by decide +kernel
theorem dX10_patches_128 : decode cX10_patches 128 = .ok (.iload 6, 2) := by decide +kernel
theorem dX10_patches_130 : decode cX10_patches 130 = .ok (.if_icmp .ge 8, 3) := by decide +kernel
theorem dX10_patches_133 : decode cX10_patches 133 = .ok (.iload 5, 2) := by decide +kernel
theorem dX10_patches_135 : decode cX10_patches 135 = .ok (.goto 5, 3) := by decide +kernel
theorem dX10_patches_138 : decode cX10_patches 138 = .ok (.iload 6, 2) := by decide +kernel
theorem dX10_patches_140 : decode cX10_patches 140 = .ok (.iastore, 1) := by decide +kernel
theorem dX10_patches_141 : decode cX10_patches 141 = .ok (.iinc 4 (-1), 3) := by decide +kernel
theorem dX10_patches_144 : decode cX10_patches 144 = .ok (.goto (-118), 3) := by decide +kernel
theorem dX10_patches_147 : decode cX10_patches 147 = .ok (.aload_n 0, 1) := by decide +kernel
theorem dX10_patches_148 : decode cX10_patches 148 = .ok (.getfield 56, 3) := by decide +kernel
theorem dX10_patches_151 : decode cX10_patches 151 = .ok (.iconst 0, 1) := by decide +kernel
theorem dX10_patches_152 : decode cX10_patches 152 = .ok (.iaload, 1) := by decide +kernel
theorem dX10_patches_153 : decode cX10_patches 153 = .ok (.ireturn, 1) := by decide +kernel
theorem dX10_isStroked_0 : decode cX10_isStroked 0 = .ok (.aload_n 0, 1) := by decide +kernel
theorem dX10_isStroked_1 : decode cX10_isStroked 1 = .ok (.getfield 7, 3) := by decide +kernel
theorem dX10_isStroked_4 : decode cX10_isStroked 4 = .ok (.bipush 11, 2) := by decide +kernel
theorem dX10_isStroked_6 : decode cX10_isStroked 6 = .ok (.iload_n 2, 1) := by decide +kernel
theorem dX10_isStroked_7 : decode cX10_isStroked 7 = .ok (.iconst 2, 1) := by decide +kernel
theorem dX10_isStroked_8 : decode cX10_isStroked 8 = .ok (.idiv, 1) := by decide +kernel
theorem dX10_isStroked_9 : decode cX10_isStroked 9 = .ok (.iadd, 1) := by decide +kernel
theorem dX10_isStroked_10 : decode cX10_isStroked 10 = .ok (.iaload, 1) := by decide +kernel
theorem dX10_isStroked_11 : decode cX10_isStroked 11 = .ok (.ifCond .ne 5, 3) := by decide +kernel
theorem dX10_isStroked_14 : decode cX10_isStroked 14 = .ok (.iconst 0, 1) := by decide +kernel
theorem dX10_isStroked_15 : decode cX10_isStroked 15 = .ok (.ireturn, 1) := by decide +kernel
theorem dX10_isStroked_16 : decode cX10_isStroked 16 = .ok (.aload_n 0, 1) := by decide +kernel
theorem dX10_isStroked_17 : decode cX10_isStroked 17 = .ok (.iload_n 1, 1) := by decide +kernel
theorem dX10_isStroked_18 : decode cX10_isStroked 18 = .ok (.iload_n 2, 1) := by decide +kernel
theorem dX10_isStroked_19 : decode cX10_isStroked 19 = .ok (.iconst 2, 1) := by decide +kernel
theorem dX10_isStroked_20 : decode cX10_isStroked 20 = .ok (.idiv, 1) := by decide +kernel
theorem dX10_isStroked_21 : decode cX10_isStroked 21 = .ok (.iload_n 2, 1) := by decide +kernel
theorem dX10_isStroked_22 : decode cX10_isStroked 22 = .ok (.iconst 2, 1) := by decide +kernel
theorem dX10_isStroked_23 : decode cX10_isStroked 23 = .ok (.irem, 1) := by decide +kernel
theorem dX10_isStroked_24 : decode cX10_isStroked 24 = .ok (.iconst 1, 1) := by decide +kernel
theorem dX10_isStroked_25 : decode cX10_isStroked 25 = .ok (.if_icmp .ne 7, 3) := by decide +kernel
theorem dX10_isStroked_28 : decode cX10_isStroked 28 = .ok (.iconst 1, 1) := by decide +kernel
theorem dX10_isStroked_29 : decode cX10_isStroked 29 = .ok (.goto 4, 3) := by decide +kernel
theorem dX10_isStroked_32 : decode cX10_isStroked 32 = .ok (.iconst 0, 1) := by decide +kernel
theorem dX10_isStroked_33 : decode cX10_isStroked 33 = .ok (.invokevirtual 307, 3) := by decide +kernel
theorem dX10_isStroked_36 : decode cX10_isStroked 36 = .ok (.ifCond .lt 7, 3) := by decide +kernel
theorem dX10_isStroked_39 : decode cX10_isStroked 39 = .ok (.iconst 1, 1) := by decide +kernel
theorem dX10_isStroked_40 : decode cX10_isStroked 40 = .ok (.goto 4, 3) := by decide +kernel
theorem dX10_isStroked_43 : decode cX10_isStroked 43 = .ok (.iconst 0, 1) := by decide +kernel
theorem dX10_isStroked_44 : decode cX10_isStroked 44 = .ok (.ireturn, 1) := by decide +kernel
theorem dX10_areStroked_0 : decode cX10_areStroked 0 = .ok (.iconst 1, 1) := by decide +kernel
theorem dX10_areStroked_1 : decode cX10_areStroked 1 = .ok (.istore 4, 2) := by decide +kernel
theorem dX10_areStroked_3 : decode cX10_areStroked 3 = .ok (.iconst 1, 1) := by decide +kernel
theorem dX10_areStroked_4 : decode cX10_areStroked 4 = .ok (.istore 5, 2) := by decide +kernel
theorem dX10_areStroked_6 : decode cX10_areStroked 6 = .ok (.iload 5, 2) := by decide +kernel
theorem dX10_areStroked_8 : decode cX10_areStroked 8 = .ok (.iload_n 3, 1) := by decide +kernel
theorem dX10_areStroked_9 : decode cX10_areStroked 9 = .ok (.if_icmp .ge 16, 3) := by decide +kernel
theorem dX10_areStroked_12 : decode cX10_areStroked 12 = .ok (.iload 4, 2) := by decide +kernel
theorem dX10_areStroked_14 : decode cX10_areStroked 14 = .ok (.bipush 24, 2) := by decide +kernel
theorem dX10_areStroked_16 : decode cX10_areStroked 16 = .ok (.imul, 1) := by decide +kernel
theorem dX10_areStroked_17 : decode cX10_areStroked 17 = .ok (.istore 4, 2) := by decide +kernel
theorem dX10_areStroked_19 : decode cX10_areStroked 19 = .ok (.iinc 5 1, 3) := by decide +kernel
theorem dX10_areStroked_22 : decode cX10_areStroked 22 = .ok (.goto (-16), 3) := by decide +kernel
theorem dX10_areStroked_25 : decode cX10_areStroked 25 = .ok (.iconst 0, 1) := by decide +kernel
theorem dX10_areStroked_26 : decode cX10_areStroked 26 = .ok (.istore 5, 2) := by decide +kernel
theorem dX10_areStroked_28 : decode cX10_areStroked 28 = .ok (.iload 5, 2) := by decide +kernel
theorem dX10_areStroked_30 : decode cX10_areStroked 30 = .ok (.iload_n 3, 1) := by decide +kernel
theorem dX10_areStroked_31 : decode cX10_areStroked 31 = .ok (.if_icmp .ge 43, 3) := by decide +kernel
theorem dX10_areStroked_34 : decode cX10_areStroked 34 = .ok (.aload_n 0, 1) := by decide +kernel
theorem dX10_areStroked_35 : decode cX10_areStroked 35 = .ok (.iload_n 1, 1) := by decide +kernel
theorem dX10_areStroked_36 : decode cX10_areStroked 36 = .ok (.iload_n 2, 1) := by decide +kernel
theorem dX10_areStroked_37 : decode cX10_areStroked 37 = .ok (.iload 4, 2) := by decide +kernel
theorem dX10_areStroked_39 : decode cX10_areStroked 39 = .ok (.idiv, 1) := by decide +kernel
theorem dX10_areStroked_40 : decode cX10_areStroked 40 = .ok (.bipush 24, 2) := by decide +kernel
theorem dX10_areStroked_42 : decode cX10_areStroked 42 = .ok (.irem, 1) := by decide +kernel
theorem dX10_areStroked_43 : decode cX10_areStroked 43 = .ok (.invokevirtual 396, 3) := by decide +kernel
theorem dX10_areStroked_46 : decode cX10_areStroked 46 = .ok (.ifCond .ne 5, 3) := by decide +kernel
theorem dX10_areStroked_49 : decode cX10_areStroked 49 = .ok (.iconst 0, 1) := by decide +kernel
theorem dX10_areStroked_50 : decode cX10_areStroked 50 = .ok (.ireturn, 1) := by decide +kernel
theorem dX10_areStroked_51 : decode cX10_areStroked 51 = .ok (.iload 4, 2) := by decide +kernel
theorem dX10_areStroked_53 : decode cX10_areStroked 53 = .ok (.iconst 1, 1) := by decide +kernel
theorem dX10_areStroked_54 : decode cX10_areStroked 54 = .ok (.if_icmp .le 11, 3) := by decide +kernel
theorem dX10_areStroked_57 : decode cX10_areStroked 57 = .ok (.iload 4, 2) := by decide +kernel
theorem dX10_areStroked_59 : decode cX10_areStroked 59 = .ok (.bipush 24, 2) := by decide +kernel
theorem dX10_areStroked_61 : decode cX10_areStroked 61 = .ok (.idiv, 1) := by decide +kernel
theorem dX10_areStroked_62 : decode cX10_areStroked 62 = .ok (.goto 4, 3) := by decide +kernel
theorem dX10_areStroked_65 : decode cX10_areStroked 65 = .ok (.iconst 1, 1) := by decide +kernel
theorem dX10_areStroked_66 : decode cX10_areStroked 66 = .ok (.istore 4, 2) := by decide +kernel
theorem dX10_areStroked_68 : decode cX10_areStroked 68 = .ok (.iinc 5 1, 3) := by decide +kernel
theorem dX10_areStroked_71 : decode cX10_areStroked 71 = .ok (.goto (-43), 3) := by decide +kernel
theorem dX10_areStroked_74 : decode cX10_areStroked 74 = .ok (.iconst 1, 1) := by decide +kernel
theorem dX10_areStroked_75 : decode cX10_areStroked 75 = .ok (.ireturn, 1) := by decide +kernel
theorem dX10_isPlan_0 : decode cX10_isPlan 0 = .ok (.aload_n 0, 1) := by decide +kernel
theorem dX10_isPlan_1 : decode cX10_isPlan 1 = .ok (.invokevirtual 362, 3) := by decide +kernel
theorem dX10_isPlan_4 : decode cX10_isPlan 4 = .ok (.istore 5, 2) := by decide +kernel
theorem dX10_isPlan_6 : decode cX10_isPlan 6 = .ok (.aload_n 0, 1) := by decide +kernel
theorem dX10_isPlan_7 : decode cX10_isPlan 7 = .ok (.invokevirtual 372, 3) := by decide +kernel
theorem dX10_isPlan_10 : decode cX10_isPlan 10 = .ok (.aload_n 0, 1) := by decide +kernel
theorem dX10_isPlan_11 : decode cX10_isPlan 11 = .ok (.iload_n 1, 1) := by decide +kernel
theorem dX10_isPlan_12 : decode cX10_isPlan 12 = .ok (.iload_n 2, 1) := by decide +kernel
theorem dX10_isPlan_13 : decode cX10_isPlan 13 = .ok (.iload_n 3, 1) := by decide +kernel
theorem dX10_isPlan_14 : decode cX10_isPlan 14 = .ok (.invokevirtual 399, 3) := by decide +kernel
theorem dX10_isPlan_17 : decode cX10_isPlan 17 = .ok (.ifCond .eq 31, 3) := by decide +kernel
theorem dX10_isPlan_20 : decode cX10_isPlan 20 = .ok (.aload_n 0, 1) := by decide +kernel
theorem dX10_isPlan_21 : decode cX10_isPlan 21 = .ok (.invokevirtual 362, 3) := by decide +kernel
theorem dX10_isPlan_24 : decode cX10_isPlan 24 = .ok (.iload 5, 2) := by decide +kernel
theorem dX10_isPlan_26 : decode cX10_isPlan 26 = .ok (.iconst (-1), 1) := by decide +kernel
theorem dX10_isPlan_27 : decode cX10_isPlan 27 = .ok (.ixor, 1) := by decide +kernel
theorem dX10_isPlan_28 : decode cX10_isPlan 28 = .ok (.iand, 1) := by decide +kernel
theorem dX10_isPlan_29 : decode cX10_isPlan 29 = .ok (.ifCond .ne 19, 3) := by decide +kernel
theorem dX10_isPlan_32 : decode cX10_isPlan 32 = .ok (.aload_n 0, 1) := by decide +kernel
theorem dX10_isPlan_33 : decode cX10_isPlan 33 = .ok (.iconst 0, 1) := by decide +kernel
theorem dX10_isPlan_34 : decode cX10_isPlan 34 = .ok (.bipush 12, 2) := by decide +kernel
theorem dX10_isPlan_36 : decode cX10_isPlan 36 = .ok (.invokevirtual 378, 3) := by decide +kernel
theorem dX10_isPlan_39 : decode cX10_isPlan 39 = .ok (.iload 4, 2) := by decide +kernel
theorem dX10_isPlan_41 : decode cX10_isPlan 41 = .ok (.if_icmp .gt 7, 3) := by decide +kernel
theorem dX10_isPlan_44 : decode cX10_isPlan 44 = .ok (.iconst 1, 1) := by decide +kernel
theorem dX10_isPlan_45 : decode cX10_isPlan 45 = .ok (.goto 4, 3) := by decide +kernel
theorem dX10_isPlan_48 : decode cX10_isPlan 48 = .ok (.iconst 0, 1) := by decide +kernel
theorem dX10_isPlan_49 : decode cX10_isPlan 49 = .ok (.istore 6, 2) := by decide +kernel
theorem dX10_isPlan_51 : decode cX10_isPlan 51 = .ok (.aload_n 0, 1) := by decide +kernel
theorem dX10_isPlan_52 : decode cX10_isPlan 52 = .ok (.invokevirtual 375, 3) := by decide +kernel
theorem dX10_isPlan_55 : decode cX10_isPlan 55 = .ok (.iload 6, 2) := by decide +kernel
theorem dX10_isPlan_57 : decode cX10_isPlan 57 = .ok (.ireturn, 1) := by decide +kernel
theorem dX10_plan_0 : decode cX10_plan 0 = .ok (.aload_n 0, 1) := by decide +kernel
theorem dX10_plan_1 : decode cX10_plan 1 = .ok (.iload_n 1, 1) := by decide +kernel
theorem dX10_plan_2 : decode cX10_plan 2 = .ok (.invokevirtual 311, 3) := by decide +kernel
theorem dX10_plan_5 : decode cX10_plan 5 = .ok (.ifCond .eq 23, 3) := by decide +kernel
theorem dX10_plan_8 : decode cX10_plan 8 = .ok (.iload_n 2, 1) := by decide +kernel
theorem dX10_plan_9 : decode cX10_plan 9 = .ok (.iconst 0, 1) := by decide +kernel
theorem dX10_plan_10 : decode cX10_plan 10 = .ok (.sipush 9999, 3) := by decide +kernel
theorem dX10_plan_13 : decode cX10_plan 13 = .ok (.invokestatic 63, 3) := by decide +kernel
theorem dX10_plan_16 : decode cX10_plan 16 = .ok (.ifCond .eq 12, 3) := by decide +kernel
theorem dX10_plan_19 : decode cX10_plan 19 = .ok (.iload_n 3, 1) := by decide +kernel
theorem dX10_plan_20 : decode cX10_plan 20 = .ok (.iconst (-1), 1) := by decide +kernel
theorem dX10_plan_21 : decode cX10_plan 21 = .ok (.iconst 2, 1) := by decide +kernel
theorem dX10_plan_22 : decode cX10_plan 22 = .ok (.invokestatic 63, 3) := by decide +kernel
theorem dX10_plan_25 : decode cX10_plan 25 = .ok (.ifCond .ne 6, 3) := by decide +kernel
theorem dX10_plan_28 : decode cX10_plan 28 = .ok (.bipush (-2), 2) := by decide +kernel
theorem dX10_plan_30 : decode cX10_plan 30 = .ok (.ireturn, 1) := by decide +kernel
theorem dX10_plan_31 : decode cX10_plan 31 = .ok (.iconst 1, 1) := by decide +kernel
theorem dX10_plan_32 : decode cX10_plan 32 = .ok (.istore 4, 2) := by decide +kernel
theorem dX10_plan_34 : decode cX10_plan 34 = .ok (.iconst 0, 1) := by decide +kernel
theorem dX10_plan_35 : decode cX10_plan 35 = .ok (.istore 5, 2) := by decide +kernel
theorem dX10_plan_37 : decode cX10_plan 37 = .ok (.iload 5, 2) := by decide +kernel
theorem dX10_plan_39 : decode cX10_plan 39 = .ok (.iconst 4, 1) := by decide +kernel
theorem dX10_plan_40 : decode cX10_plan 40 = .ok (.if_icmp .ge 102, 3) := by decide +kernel
theorem dX10_plan_43 : decode cX10_plan 43 = .ok (.iconst 0, 1) := by decide +kernel
theorem dX10_plan_44 : decode cX10_plan 44 = .ok (.istore 6, 2) := by decide +kernel
theorem dX10_plan_46 : decode cX10_plan 46 = .ok (.iload 6, 2) := by decide +kernel
theorem dX10_plan_48 : decode cX10_plan 48 = .ok (.iload 4, 2) := by decide +kernel
theorem dX10_plan_50 : decode cX10_plan 50 = .ok (.if_icmp .ge 79, 3) := by decide +kernel
theorem dX10_plan_53 : decode cX10_plan 53 = .ok (.aload_n 0, 1) := by decide +kernel
theorem dX10_plan_54 : decode cX10_plan 54 = .ok (.iload_n 1, 1) := by decide +kernel
theorem dX10_plan_55 : decode cX10_plan 55 = .ok (.iload 6, 2) := by decide +kernel
theorem dX10_plan_57 : decode cX10_plan 57 = .ok (.iload 5, 2) := by decide +kernel
theorem dX10_plan_59 : decode cX10_plan 59 = .ok (.iload_n 2, 1) := by decide +kernel
theorem dX10_plan_60 : decode cX10_plan 60 = .ok (.invokevirtual 402, 3) := by decide +kernel
theorem dX10_plan_63 : decode cX10_plan 63 = .ok (.ifCond .ne 6, 3) := by decide +kernel
theorem dX10_plan_66 : decode cX10_plan 66 = .ok (.goto 57, 3) := by decide +kernel
theorem dX10_plan_69 : decode cX10_plan 69 = .ok (.iload_n 3, 1) := by decide +kernel
theorem dX10_plan_70 : decode cX10_plan 70 = .ok (.iconst (-1), 1) := by decide +kernel
theorem dX10_plan_71 : decode cX10_plan 71 = .ok (.if_icmp .ne 6, 3) := by decide +kernel
theorem dX10_plan_74 : decode cX10_plan 74 = .ok (.iload 5, 2) := by decide +kernel
theorem dX10_plan_76 : decode cX10_plan 76 = .ok (.ireturn, 1) := by decide +kernel
theorem dX10_plan_77 : decode cX10_plan 77 = .ok (.iload 6, 2) := by decide +kernel
theorem dX10_plan_79 : decode cX10_plan 79 = .ok (.istore 7, 2) := by decide +kernel
theorem dX10_plan_81 : decode cX10_plan 81 = .ok (.iload 5, 2) := by decide +kernel
theorem dX10_plan_83 : decode cX10_plan 83 = .ok (.iconst 1, 1) := by decide +kernel
theorem dX10_plan_84 : decode cX10_plan 84 = .ok (.isub, 1) := by decide +kernel
theorem dX10_plan_85 : decode cX10_plan 85 = .ok (.istore 8, 2) := by decide +kernel
theorem dX10_plan_87 : decode cX10_plan 87 = .ok (.iload 8, 2) := by decide +kernel
theorem dX10_plan_89 : decode cX10_plan 89 = .ok (.iload_n 3, 1) := by decide +kernel
theorem dX10_plan_90 : decode cX10_plan 90 = .ok (.if_icmp .le 16, 3) := by decide +kernel
theorem dX10_plan_93 : decode cX10_plan 93 = .ok (.iload 7, 2) := by decide +kernel
theorem dX10_plan_95 : decode cX10_plan 95 = .ok (.bipush 24, 2) := by decide +kernel
theorem dX10_plan_97 : decode cX10_plan 97 = .ok (.idiv, 1) := by decide +kernel
theorem dX10_plan_98 : decode cX10_plan 98 = .ok (.istore 7, 2) := by decide +kernel
theorem dX10_plan_100 : decode cX10_plan 100 = .ok (.iinc 8 (-1), 3) := by decide +kernel
theorem dX10_plan_103 : decode cX10_plan 103 = .ok (.goto (-16), 3) := by decide +kernel
theorem dX10_plan_106 : decode cX10_plan 106 = .ok (.iload_n 3, 1) := by decide +kernel
theorem dX10_plan_107 : decode cX10_plan 107 = .ok (.iload 5, 2) := by decide +kernel
theorem dX10_plan_109 : decode cX10_plan 109 = .ok (.if_icmp .ge 11, 3) := by decide +kernel
theorem dX10_plan_112 : decode cX10_plan 112 = .ok (.iload 7, 2) := by decide +kernel
theorem dX10_plan_114 : decode cX10_plan 114 = .ok (.bipush 24, 2) := by decide +kernel
theorem dX10_plan_116 : decode cX10_plan 116 = .ok (.irem, 1) := by decide +kernel
theorem dX10_plan_117 : decode cX10_plan 117 = .ok (.goto 5, 3) := by decide +kernel
theorem dX10_plan_120 : decode cX10_plan 120 = .ok (.bipush (-2), 2) := by decide +kernel
theorem dX10_plan_122 : decode cX10_plan 122 = .ok (.ireturn, 1) := by decide +kernel
theorem dX10_plan_123 : decode cX10_plan 123 = .ok (.iinc 6 1, 3) := by decide +kernel
theorem dX10_plan_126 : decode cX10_plan 126 = .ok (.goto (-80), 3) := by decide +kernel
theorem dX10_plan_129 : decode cX10_plan 129 = .ok (.iload 4, 2) := by decide +kernel
theorem dX10_plan_131 : decode cX10_plan 131 = .ok (.bipush 24, 2) := by decide +kernel
theorem dX10_plan_133 : decode cX10_plan 133 = .ok (.imul, 1) := by decide +kernel
theorem dX10_plan_134 : decode cX10_plan 134 = .ok (.istore 4, 2) := by decide +kernel
theorem dX10_plan_136 : decode cX10_plan 136 = .ok (.iinc 5 1, 3) := by decide +kernel
theorem dX10_plan_139 : decode cX10_plan 139 = .ok (.goto (-102), 3) := by decide +kernel
theorem dX10_plan_142 : decode cX10_plan 142 = .ok (.bipush (-2), 2) := by decide +kernel
theorem dX10_plan_144 : decode cX10_plan 144 = .ok (.ireturn, 1) := by decide +kernel
theorem dX10_best_0 : decode cX10_best 0 = .ok (.aload_n 0, 1) := by decide +kernel
theorem dX10_best_1 : decode cX10_best 1 = .ok (.iload_n 1, 1) := by decide +kernel
theorem dX10_best_2 : decode cX10_best 2 = .ok (.invokevirtual 311, 3) := by decide +kernel
theorem dX10_best_5 : decode cX10_best 5 = .ok (.ifCond .ne 5, 3) := by decide +kernel
theorem dX10_best_8 : decode cX10_best 8 = .ok (.iconst (-1), 1) := by decide +kernel
theorem dX10_best_9 : decode cX10_best 9 = .ok (.ireturn, 1) := by decide +kernel
theorem dX10_best_10 : decode cX10_best 10 = .ok (.iconst (-1), 1) := by decide +kernel
theorem dX10_best_11 : decode cX10_best 11 = .ok (.istore_n 2, 1) := by decide +kernel
theorem dX10_best_12 : decode cX10_best 12 = .ok (.ldc_w 371, 3) := by decide +kernel
theorem dX10_best_15 : decode cX10_best 15 = .ok (.istore_n 3, 1) := by decide +kernel
theorem dX10_best_16 : decode cX10_best 16 = .ok (.iconst 0, 1) := by decide +kernel
theorem dX10_best_17 : decode cX10_best 17 = .ok (.istore 4, 2) := by decide +kernel
theorem dX10_best_19 : decode cX10_best 19 = .ok (.iload 4, 2) := by decide +kernel
theorem dX10_best_21 : decode cX10_best 21 = .ok (.bipush 24, 2) := by decide +kernel
theorem dX10_best_23 : decode cX10_best 23 = .ok (.if_icmp .ge 55, 3) := by decide +kernel
theorem dX10_best_26 : decode cX10_best 26 = .ok (.aload_n 0, 1) := by decide +kernel
theorem dX10_best_27 : decode cX10_best 27 = .ok (.invokevirtual 372, 3) := by decide +kernel
theorem dX10_best_30 : decode cX10_best 30 = .ok (.aload_n 0, 1) := by decide +kernel
theorem dX10_best_31 : decode cX10_best 31 = .ok (.iload_n 1, 1) := by decide +kernel
theorem dX10_best_32 : decode cX10_best 32 = .ok (.iload 4, 2) := by decide +kernel
theorem dX10_best_34 : decode cX10_best 34 = .ok (.invokevirtual 396, 3) := by decide +kernel
theorem dX10_best_37 : decode cX10_best 37 = .ok (.istore 5, 2) := by decide +kernel
theorem dX10_best_39 : decode cX10_best 39 = .ok (.aload_n 0, 1) := by decide +kernel
theorem dX10_best_40 : decode cX10_best 40 = .ok (.iconst 0, 1) := by decide +kernel
theorem dX10_best_41 : decode cX10_best 41 = .ok (.bipush 12, 2) := by decide +kernel
theorem dX10_best_43 : decode cX10_best 43 = .ok (.invokevirtual 378, 3) := by decide +kernel
theorem dX10_best_46 : decode cX10_best 46 = .ok (.istore 6, 2) := by decide +kernel
theorem dX10_best_48 : decode cX10_best 48 = .ok (.aload_n 0, 1) := by decide +kernel
theorem dX10_best_49 : decode cX10_best 49 = .ok (.invokevirtual 375, 3) := by decide +kernel
theorem dX10_best_52 : decode cX10_best 52 = .ok (.iload 5, 2) := by decide +kernel
theorem dX10_best_54 : decode cX10_best 54 = .ok (.ifCond .eq 18, 3) := by decide +kernel
theorem dX10_best_57 : decode cX10_best 57 = .ok (.iload 6, 2) := by decide +kernel
theorem dX10_best_59 : decode cX10_best 59 = .ok (.iload_n 3, 1) := by decide +kernel
theorem dX10_best_60 : decode cX10_best 60 = .ok (.if_icmp .lt 6, 3) := by decide +kernel
theorem dX10_best_63 : decode cX10_best 63 = .ok (.goto 9, 3) := by decide +kernel
theorem dX10_best_66 : decode cX10_best 66 = .ok (.iload 6, 2) := by decide +kernel
theorem dX10_best_68 : decode cX10_best 68 = .ok (.istore_n 3, 1) := by decide +kernel
theorem dX10_best_69 : decode cX10_best 69 = .ok (.iload 4, 2) := by decide +kernel
theorem dX10_best_71 : decode cX10_best 71 = .ok (.istore_n 2, 1) := by decide +kernel
theorem dX10_best_72 : decode cX10_best 72 = .ok (.iinc 4 1, 3) := by decide +kernel
theorem dX10_best_75 : decode cX10_best 75 = .ok (.goto (-56), 3) := by decide +kernel
theorem dX10_best_78 : decode cX10_best 78 = .ok (.iload_n 2, 1) := by decide +kernel
theorem dX10_best_79 : decode cX10_best 79 = .ok (.ireturn, 1) := by decide +kernel
theorem dX10_isMade_0 : decode cX10_isMade 0 = .ok (.aload_n 0, 1) := by decide +kernel
theorem dX10_isMade_1 : decode cX10_isMade 1 = .ok (.invokevirtual 372, 3) := by decide +kernel
theorem dX10_isMade_4 : decode cX10_isMade 4 = .ok (.bipush 11, 2) := by decide +kernel
theorem dX10_isMade_6 : decode cX10_isMade 6 = .ok (.istore 4, 2) := by decide +kernel
theorem dX10_isMade_8 : decode cX10_isMade 8 = .ok (.iload 4, 2) := by decide +kernel
theorem dX10_isMade_10 : decode cX10_isMade 10 = .ok (.bipush 35, 2) := by decide +kernel
theorem dX10_isMade_12 : decode cX10_isMade 12 = .ok (.if_icmp .ge 23, 3) := by decide +kernel
theorem dX10_isMade_15 : decode cX10_isMade 15 = .ok (.aload_n 0, 1) := by decide +kernel
theorem dX10_isMade_16 : decode cX10_isMade 16 = .ok (.getfield 7, 3) := by decide +kernel
theorem dX10_isMade_19 : decode cX10_isMade 19 = .ok (.iload 4, 2) := by decide +kernel
theorem dX10_isMade_21 : decode cX10_isMade 21 = .ok (.aload_n 0, 1) := by decide +kernel
theorem dX10_isMade_22 : decode cX10_isMade 22 = .ok (.getfield 13, 3) := by decide +kernel
theorem dX10_isMade_25 : decode cX10_isMade 25 = .ok (.iload 4, 2) := by decide +kernel
theorem dX10_isMade_27 : decode cX10_isMade 27 = .ok (.iaload, 1) := by decide +kernel
theorem dX10_isMade_28 : decode cX10_isMade 28 = .ok (.iastore, 1) := by decide +kernel
theorem dX10_isMade_29 : decode cX10_isMade 29 = .ok (.iinc 4 1, 3) := by decide +kernel
theorem dX10_isMade_32 : decode cX10_isMade 32 = .ok (.goto (-24), 3) := by decide +kernel
theorem dX10_isMade_35 : decode cX10_isMade 35 = .ok (.aload_n 0, 1) := by decide +kernel
theorem dX10_isMade_36 : decode cX10_isMade 36 = .ok (.getfield 7, 3) := by decide +kernel
theorem dX10_isMade_39 : decode cX10_isMade 39 = .ok (.bipush 9, 2) := by decide +kernel
theorem dX10_isMade_41 : decode cX10_isMade 41 = .ok (.aload_n 0, 1) := by decide +kernel
theorem dX10_isMade_42 : decode cX10_isMade 42 = .ok (.getfield 13, 3) := by decide +kernel
theorem dX10_isMade_45 : decode cX10_isMade 45 = .ok (.bipush 9, 2) := by decide +kernel
theorem dX10_isMade_47 : decode cX10_isMade 47 = .ok (.iaload, 1) := by decide +kernel
theorem dX10_isMade_48 : decode cX10_isMade 48 = .ok (.iastore, 1) := by decide +kernel
theorem dX10_isMade_49 : decode cX10_isMade 49 = .ok (.aload_n 0, 1) := by decide +kernel
theorem dX10_isMade_50 : decode cX10_isMade 50 = .ok (.iload_n 1, 1) := by decide +kernel
theorem dX10_isMade_51 : decode cX10_isMade 51 = .ok (.iload_n 2, 1) := by decide +kernel
theorem dX10_isMade_52 : decode cX10_isMade 52 = .ok (.iload_n 3, 1) := by decide +kernel
theorem dX10_isMade_53 : decode cX10_isMade 53 = .ok (.invokevirtual 399, 3) := by decide +kernel
theorem dX10_isMade_56 : decode cX10_isMade 56 = .ok (.istore 4, 2) := by decide +kernel
theorem dX10_isMade_58 : decode cX10_isMade 58 = .ok (.bipush 11, 2) := by decide +kernel
theorem dX10_isMade_60 : decode cX10_isMade 60 = .ok (.istore 5, 2) := by decide +kernel
theorem dX10_isMade_62 : decode cX10_isMade 62 = .ok (.iload 5, 2) := by decide +kernel
theorem dX10_isMade_64 : decode cX10_isMade 64 = .ok (.bipush 35, 2) := by decide +kernel
theorem dX10_isMade_66 : decode cX10_isMade 66 = .ok (.if_icmp .ge 36, 3) := by decide +kernel
theorem dX10_isMade_69 : decode cX10_isMade 69 = .ok (.iload 4, 2) := by decide +kernel
theorem dX10_isMade_71 : decode cX10_isMade 71 = .ok (.aload_n 0, 1) := by decide +kernel
theorem dX10_isMade_72 : decode cX10_isMade 72 = .ok (.getfield 7, 3) := by decide +kernel
theorem dX10_isMade_75 : decode cX10_isMade 75 = .ok (.iload 5, 2) := by decide +kernel
theorem dX10_isMade_77 : decode cX10_isMade 77 = .ok (.iaload, 1) := by decide +kernel
theorem dX10_isMade_78 : decode cX10_isMade 78 = .ok (.aload_n 0, 1) := by decide +kernel
theorem dX10_isMade_79 : decode cX10_isMade 79 = .ok (.getfield 47, 3) := by decide +kernel
theorem dX10_isMade_82 : decode cX10_isMade 82 = .ok (.iload 5, 2) := by decide +kernel
theorem dX10_isMade_84 : decode cX10_isMade 84 = .ok (.iaload, 1) := by decide +kernel
theorem dX10_isMade_85 : decode cX10_isMade 85 = .ok (.if_icmp .ne 7, 3) := by decide +kernel
theorem dX10_isMade_88 : decode cX10_isMade 88 = .ok (.iconst 1, 1) := by decide +kernel
theorem dX10_isMade_89 : decode cX10_isMade 89 = .ok (.goto 4, 3) := by decide +kernel
theorem dX10_isMade_92 : decode cX10_isMade 92 = .ok (.iconst 0, 1) := by decide +kernel
theorem dX10_isMade_93 : decode cX10_isMade 93 = .ok (.iand, 1) := by decide +kernel
theorem dX10_isMade_94 : decode cX10_isMade 94 = .ok (.istore 4, 2) := by decide +kernel
theorem dX10_isMade_96 : decode cX10_isMade 96 = .ok (.iinc 5 1, 3) := by decide +kernel
theorem dX10_isMade_99 : decode cX10_isMade 99 = .ok (.goto (-37), 3) := by decide +kernel
theorem dX10_isMade_102 : decode cX10_isMade 102 = .ok (.iload 4, 2) := by decide +kernel
theorem dX10_isMade_104 : decode cX10_isMade 104 = .ok (.aload_n 0, 1) := by decide +kernel
theorem dX10_isMade_105 : decode cX10_isMade 105 = .ok (.getfield 7, 3) := by decide +kernel
theorem dX10_isMade_108 : decode cX10_isMade 108 = .ok (.bipush 9, 2) := by decide +kernel
theorem dX10_isMade_110 : decode cX10_isMade 110 = .ok (.iaload, 1) := by decide +kernel
theorem dX10_isMade_111 : decode cX10_isMade 111 = .ok (.aload_n 0, 1) := by decide +kernel
theorem dX10_isMade_112 : decode cX10_isMade 112 = .ok (.getfield 47, 3) := by decide +kernel
theorem dX10_isMade_115 : decode cX10_isMade 115 = .ok (.bipush 9, 2) := by decide +kernel
theorem dX10_isMade_117 : decode cX10_isMade 117 = .ok (.iaload, 1) := by decide +kernel
theorem dX10_isMade_118 : decode cX10_isMade 118 = .ok (.if_icmp .ne 7, 3) := by decide +kernel
theorem dX10_isMade_121 : decode cX10_isMade 121 = .ok (.iconst 1, 1) := by decide +kernel
theorem dX10_isMade_122 : decode cX10_isMade 122 = .ok (.goto 4, 3) := by decide +kernel
theorem dX10_isMade_125 : decode cX10_isMade 125 = .ok (.iconst 0, 1) := by decide +kernel
theorem dX10_isMade_126 : decode cX10_isMade 126 = .ok (.iand, 1) := by decide +kernel
theorem dX10_isMade_127 : decode cX10_isMade 127 = .ok (.istore 4, 2) := by decide +kernel
theorem dX10_isMade_129 : decode cX10_isMade 129 = .ok (.aload_n 0, 1) := by decide +kernel
theorem dX10_isMade_130 : decode cX10_isMade 130 = .ok (.invokevirtual 375, 3) := by decide +kernel
theorem dX10_isMade_133 : decode cX10_isMade 133 = .ok (.iload 4, 2) := by decide +kernel
theorem dX10_isMade_135 : decode cX10_isMade 135 = .ok (.ireturn, 1) := by decide +kernel
theorem dX10_which_0 : decode cX10_which 0 = .ok (.aload_n 0, 1) := by decide +kernel
theorem dX10_which_1 : decode cX10_which 1 = .ok (.iload_n 1, 1) := by decide +kernel
theorem dX10_which_2 : decode cX10_which 2 = .ok (.invokevirtual 311, 3) := by decide +kernel
theorem dX10_which_5 : decode cX10_which 5 = .ok (.ifCond .ne 6, 3) := by decide +kernel
theorem dX10_which_8 : decode cX10_which 8 = .ok (.bipush (-2), 2) := by decide +kernel
theorem dX10_which_10 : decode cX10_which 10 = .ok (.ireturn, 1) := by decide +kernel
theorem dX10_which_11 : decode cX10_which 11 = .ok (.iconst 0, 1) := by decide +kernel
theorem dX10_which_12 : decode cX10_which 12 = .ok (.istore_n 3, 1) := by decide +kernel
theorem dX10_which_13 : decode cX10_which 13 = .ok (.iconst (-1), 1) := by decide +kernel
theorem dX10_which_14 : decode cX10_which 14 = .ok (.istore 4, 2) := by decide +kernel
theorem dX10_which_16 : decode cX10_which 16 = .ok (.iconst 0, 1) := by decide +kernel
theorem dX10_which_17 : decode cX10_which 17 = .ok (.istore 5, 2) := by decide +kernel
theorem dX10_which_19 : decode cX10_which 19 = .ok (.iload 5, 2) := by decide +kernel
theorem dX10_which_21 : decode cX10_which 21 = .ok (.bipush 24, 2) := by decide +kernel
theorem dX10_which_23 : decode cX10_which 23 = .ok (.if_icmp .ge 41, 3) := by decide +kernel
theorem dX10_which_26 : decode cX10_which 26 = .ok (.aload_n 0, 1) := by decide +kernel
theorem dX10_which_27 : decode cX10_which 27 = .ok (.iload_n 1, 1) := by decide +kernel
theorem dX10_which_28 : decode cX10_which 28 = .ok (.iload 5, 2) := by decide +kernel
theorem dX10_which_30 : decode cX10_which 30 = .ok (.iconst 1, 1) := by decide +kernel
theorem dX10_which_31 : decode cX10_which 31 = .ok (.invokevirtual 406, 3) := by decide +kernel
theorem dX10_which_34 : decode cX10_which 34 = .ok (.ifCond .ne 6, 3) := by decide +kernel
theorem dX10_which_37 : decode cX10_which 37 = .ok (.goto 21, 3) := by decide +kernel
theorem dX10_which_40 : decode cX10_which 40 = .ok (.iinc 3 1, 3) := by decide +kernel
theorem dX10_which_43 : decode cX10_which 43 = .ok (.iload 4, 2) := by decide +kernel
theorem dX10_which_45 : decode cX10_which 45 = .ok (.iconst (-1), 1) := by decide +kernel
theorem dX10_which_46 : decode cX10_which 46 = .ok (.if_icmp .ne 8, 3) := by decide +kernel
theorem dX10_which_49 : decode cX10_which 49 = .ok (.iload 5, 2) := by decide +kernel
theorem dX10_which_51 : decode cX10_which 51 = .ok (.goto 5, 3) := by decide +kernel
theorem dX10_which_54 : decode cX10_which 54 = .ok (.iload 4, 2) := by decide +kernel
theorem dX10_which_56 : decode cX10_which 56 = .ok (.istore 4, 2) := by decide +kernel
theorem dX10_which_58 : decode cX10_which 58 = .ok (.iinc 5 1, 3) := by decide +kernel
theorem dX10_which_61 : decode cX10_which 61 = .ok (.goto (-42), 3) := by decide +kernel
theorem dX10_which_64 : decode cX10_which 64 = .ok (.iconst 0, 1) := by decide +kernel
theorem dX10_which_65 : decode cX10_which 65 = .ok (.istore 5, 2) := by decide +kernel
theorem dX10_which_67 : decode cX10_which 67 = .ok (.iload 5, 2) := by decide +kernel
theorem dX10_which_69 : decode cX10_which 69 = .ok (.sipush 576, 3) := by decide +kernel
theorem dX10_which_72 : decode cX10_which 72 = .ok (.if_icmp .ge 44, 3) := by decide +kernel
theorem dX10_which_75 : decode cX10_which 75 = .ok (.aload_n 0, 1) := by decide +kernel
theorem dX10_which_76 : decode cX10_which 76 = .ok (.iload_n 1, 1) := by decide +kernel
theorem dX10_which_77 : decode cX10_which 77 = .ok (.iload 5, 2) := by decide +kernel
theorem dX10_which_79 : decode cX10_which 79 = .ok (.iconst 2, 1) := by decide +kernel
theorem dX10_which_80 : decode cX10_which 80 = .ok (.invokevirtual 406, 3) := by decide +kernel
theorem dX10_which_83 : decode cX10_which 83 = .ok (.ifCond .ne 6, 3) := by decide +kernel
theorem dX10_which_86 : decode cX10_which 86 = .ok (.goto 24, 3) := by decide +kernel
theorem dX10_which_89 : decode cX10_which 89 = .ok (.iinc 3 1, 3) := by decide +kernel
theorem dX10_which_92 : decode cX10_which 92 = .ok (.iload 4, 2) := by decide +kernel
theorem dX10_which_94 : decode cX10_which 94 = .ok (.iconst (-1), 1) := by decide +kernel
theorem dX10_which_95 : decode cX10_which 95 = .ok (.if_icmp .ne 11, 3) := by decide +kernel
theorem dX10_which_98 : decode cX10_which 98 = .ok (.iload 5, 2) := by decide +kernel
theorem dX10_which_100 : decode cX10_which 100 = .ok (.bipush 24, 2) := by decide +kernel
theorem dX10_which_102 : decode cX10_which 102 = .ok (.idiv, 1) := by decide +kernel
theorem dX10_which_103 : decode cX10_which 103 = .ok (.goto 5, 3) := by decide +kernel
theorem dX10_which_106 : decode cX10_which 106 = .ok (.iload 4, 2) := by decide +kernel
theorem dX10_which_108 : decode cX10_which 108 = .ok (.istore 4, 2) := by decide +kernel
theorem dX10_which_110 : decode cX10_which 110 = .ok (.iinc 5 1, 3) := by decide +kernel
theorem dX10_which_113 : decode cX10_which 113 = .ok (.goto (-46), 3) := by decide +kernel
theorem dX10_which_116 : decode cX10_which 116 = .ok (.iload_n 2, 1) := by decide +kernel
theorem dX10_which_117 : decode cX10_which 117 = .ok (.ifCond .eq 8, 3) := by decide +kernel
theorem dX10_which_120 : decode cX10_which 120 = .ok (.iload 4, 2) := by decide +kernel
theorem dX10_which_122 : decode cX10_which 122 = .ok (.goto 4, 3) := by decide +kernel
theorem dX10_which_125 : decode cX10_which 125 = .ok (.iload_n 3, 1) := by decide +kernel
theorem dX10_which_126 : decode cX10_which 126 = .ok (.ireturn, 1) := by decide +kernel
theorem dX10_likely_0 : decode cX10_likely 0 = .ok (.aload_n 0, 1) := by decide +kernel
theorem dX10_likely_1 : decode cX10_likely 1 = .ok (.iload_n 1, 1) := by decide +kernel
theorem dX10_likely_2 : decode cX10_likely 2 = .ok (.invokevirtual 311, 3) := by decide +kernel
theorem dX10_likely_5 : decode cX10_likely 5 = .ok (.ifCond .ne 5, 3) := by decide +kernel
theorem dX10_likely_8 : decode cX10_likely 8 = .ok (.iconst (-1), 1) := by decide +kernel
theorem dX10_likely_9 : decode cX10_likely 9 = .ok (.ireturn, 1) := by decide +kernel
theorem dX10_likely_10 : decode cX10_likely 10 = .ok (.iconst 0, 1) := by decide +kernel
theorem dX10_likely_11 : decode cX10_likely 11 = .ok (.istore_n 3, 1) := by decide +kernel
theorem dX10_likely_12 : decode cX10_likely 12 = .ok (.aload_n 0, 1) := by decide +kernel
theorem dX10_likely_13 : decode cX10_likely 13 = .ok (.invokevirtual 362, 3) := by decide +kernel
theorem dX10_likely_16 : decode cX10_likely 16 = .ok (.istore 4, 2) := by decide +kernel
theorem dX10_likely_18 : decode cX10_likely 18 = .ok (.iconst 0, 1) := by decide +kernel
theorem dX10_likely_19 : decode cX10_likely 19 = .ok (.istore 5, 2) := by decide +kernel
theorem dX10_likely_21 : decode cX10_likely 21 = .ok (.iload 5, 2) := by decide +kernel
theorem dX10_likely_23 : decode cX10_likely 23 = .ok (.bipush 24, 2) := by decide +kernel
theorem dX10_likely_25 : decode cX10_likely 25 = .ok (.if_icmp .ge 44, 3) := by decide +kernel
theorem dX10_likely_28 : decode cX10_likely 28 = .ok (.aload_n 0, 1) := by decide +kernel
theorem dX10_likely_29 : decode cX10_likely 29 = .ok (.invokevirtual 372, 3) := by decide +kernel
theorem dX10_likely_32 : decode cX10_likely 32 = .ok (.iload_n 3, 1) := by decide +kernel
theorem dX10_likely_33 : decode cX10_likely 33 = .ok (.aload_n 0, 1) := by decide +kernel
theorem dX10_likely_34 : decode cX10_likely 34 = .ok (.iload_n 1, 1) := by decide +kernel
theorem dX10_likely_35 : decode cX10_likely 35 = .ok (.iload 5, 2) := by decide +kernel
theorem dX10_likely_37 : decode cX10_likely 37 = .ok (.invokevirtual 396, 3) := by decide +kernel
theorem dX10_likely_40 : decode cX10_likely 40 = .ok (.ifCond .eq 16, 3) := by decide +kernel
theorem dX10_likely_43 : decode cX10_likely 43 = .ok (.aload_n 0, 1) := by decide +kernel
theorem dX10_likely_44 : decode cX10_likely 44 = .ok (.invokevirtual 362, 3) := by decide +kernel
theorem dX10_likely_47 : decode cX10_likely 47 = .ok (.iload 4, 2) := by decide +kernel
theorem dX10_likely_49 : decode cX10_likely 49 = .ok (.if_icmp .eq 7, 3) := by decide +kernel
theorem dX10_likely_52 : decode cX10_likely 52 = .ok (.iconst 1, 1) := by decide +kernel
theorem dX10_likely_53 : decode cX10_likely 53 = .ok (.goto 4, 3) := by decide +kernel
theorem dX10_likely_56 : decode cX10_likely 56 = .ok (.iconst 0, 1) := by decide +kernel
theorem dX10_likely_57 : decode cX10_likely 57 = .ok (.iadd, 1) := by decide +kernel
theorem dX10_likely_58 : decode cX10_likely 58 = .ok (.istore_n 3, 1) := by decide +kernel
theorem dX10_likely_59 : decode cX10_likely 59 = .ok (.aload_n 0, 1) := by decide +kernel
theorem dX10_likely_60 : decode cX10_likely 60 = .ok (.invokevirtual 375, 3) := by decide +kernel
theorem dX10_likely_63 : decode cX10_likely 63 = .ok (.iinc 5 1, 3) := by decide +kernel
theorem dX10_likely_66 : decode cX10_likely 66 = .ok (.goto (-45), 3) := by decide +kernel
theorem dX10_likely_69 : decode cX10_likely 69 = .ok (.iload_n 3, 1) := by decide +kernel
theorem dX10_likely_70 : decode cX10_likely 70 = .ok (.istore 5, 2) := by decide +kernel
theorem dX10_likely_72 : decode cX10_likely 72 = .ok (.bipush 24, 2) := by decide +kernel
theorem dX10_likely_74 : decode cX10_likely 74 = .ok (.istore 6, 2) := by decide +kernel
theorem dX10_likely_76 : decode cX10_likely 76 = .ok (.iload 6, 2) := by decide +kernel
theorem dX10_likely_78 : decode cX10_likely 78 = .ok (.ifCond .eq 21, 3) := by decide +kernel
theorem dX10_likely_81 : decode cX10_likely 81 = .ok (.iload 5, 2) := by decide +kernel
theorem dX10_likely_83 : decode cX10_likely 83 = .ok (.iload 6, 2) := by decide +kernel
theorem dX10_likely_85 : decode cX10_likely 85 = .ok (.irem, 1) := by decide +kernel
theorem dX10_likely_86 : decode cX10_likely 86 = .ok (.istore 7, 2) := by decide +kernel
theorem dX10_likely_88 : decode cX10_likely 88 = .ok (.iload 6, 2) := by decide +kernel
theorem dX10_likely_90 : decode cX10_likely 90 = .ok (.istore 5, 2) := by decide +kernel
theorem dX10_likely_92 : decode cX10_likely 92 = .ok (.iload 7, 2) := by decide +kernel
theorem dX10_likely_94 : decode cX10_likely 94 = .ok (.istore 6, 2) := by decide +kernel
theorem dX10_likely_96 : decode cX10_likely 96 = .ok (.goto (-20), 3) := by decide +kernel
theorem dX10_likely_99 : decode cX10_likely 99 = .ok (.iload_n 2, 1) := by decide +kernel
theorem dX10_likely_100 : decode cX10_likely 100 = .ok (.ifCond .eq 8, 3) := by decide +kernel
theorem dX10_likely_103 : decode cX10_likely 103 = .ok (.bipush 24, 2) := by decide +kernel
theorem dX10_likely_105 : decode cX10_likely 105 = .ok (.goto 4, 3) := by decide +kernel
theorem dX10_likely_108 : decode cX10_likely 108 = .ok (.iload_n 3, 1) := by decide +kernel
theorem dX10_likely_109 : decode cX10_likely 109 = .ok (.iload 5, 2) := by decide +kernel
theorem dX10_likely_111 : decode cX10_likely 111 = .ok (.idiv, 1) := by decide +kernel
theorem dX10_likely_112 : decode cX10_likely 112 = .ok (.ireturn, 1) := by decide +kernel
theorem dX10_said_0 : decode cX10_said 0 = .ok (.iload_n 1, 1) := by decide +kernel
theorem dX10_said_1 : decode cX10_said 1 = .ok (.iconst (-1), 1) := by decide +kernel
theorem dX10_said_2 : decode cX10_said 2 = .ok (.if_icmp .ne 12, 3) := by decide +kernel
theorem dX10_said_5 : decode cX10_said 5 = .ok (.aload_n 0, 1) := by decide +kernel
theorem dX10_said_6 : decode cX10_said 6 = .ok (.getfield 7, 3) := by decide +kernel
theorem dX10_said_9 : decode cX10_said 9 = .ok (.iconst 5, 1) := by decide +kernel
theorem dX10_said_10 : decode cX10_said 10 = .ok (.iconst 0, 1) := by decide +kernel
theorem dX10_said_11 : decode cX10_said 11 = .ok (.iastore, 1) := by decide +kernel
theorem dX10_said_12 : decode cX10_said 12 = .ok (.iconst 0, 1) := by decide +kernel
theorem dX10_said_13 : decode cX10_said 13 = .ok (.ireturn, 1) := by decide +kernel
theorem dX10_said_14 : decode cX10_said 14 = .ok (.aload_n 0, 1) := by decide +kernel
theorem dX10_said_15 : decode cX10_said 15 = .ok (.iload_n 1, 1) := by decide +kernel
theorem dX10_said_16 : decode cX10_said 16 = .ok (.invokevirtual 311, 3) := by decide +kernel
theorem dX10_said_19 : decode cX10_said 19 = .ok (.ifCond .eq 32, 3) := by decide +kernel
theorem dX10_said_22 : decode cX10_said 22 = .ok (.iload_n 2, 1) := by decide +kernel
theorem dX10_said_23 : decode cX10_said 23 = .ok (.invokestatic 67, 3) := by decide +kernel
theorem dX10_said_26 : decode cX10_said 26 = .ok (.ifCond .eq 25, 3) := by decide +kernel
theorem dX10_said_29 : decode cX10_said 29 = .ok (.iload_n 3, 1) := by decide +kernel
theorem dX10_said_30 : decode cX10_said 30 = .ok (.iconst 0, 1) := by decide +kernel
theorem dX10_said_31 : decode cX10_said 31 = .ok (.sipush 9999, 3) := by decide +kernel
theorem dX10_said_34 : decode cX10_said 34 = .ok (.invokestatic 63, 3) := by decide +kernel
theorem dX10_said_37 : decode cX10_said 37 = .ok (.ifCond .eq 14, 3) := by decide +kernel
theorem dX10_said_40 : decode cX10_said 40 = .ok (.aload_n 0, 1) := by decide +kernel
theorem dX10_said_41 : decode cX10_said 41 = .ok (.getfield 7, 3) := by decide +kernel
theorem dX10_said_44 : decode cX10_said 44 = .ok (.iconst 5, 1) := by decide +kernel
theorem dX10_said_45 : decode cX10_said 45 = .ok (.iaload, 1) := by decide +kernel
theorem dX10_said_46 : decode cX10_said 46 = .ok (.bipush 8, 2) := by decide +kernel
theorem dX10_said_48 : decode cX10_said 48 = .ok (.if_icmp .ne 6, 3) := by decide +kernel
theorem dX10_said_51 : decode cX10_said 51 = .ok (.bipush (-2), 2) := by decide +kernel
theorem dX10_said_53 : decode cX10_said 53 = .ok (.ireturn, 1) := by decide +kernel
theorem dX10_said_54 : decode cX10_said 54 = .ok (.bipush 51, 2) := by decide +kernel
theorem dX10_said_56 : decode cX10_said 56 = .ok (.iconst 3, 1) := by decide +kernel
theorem dX10_said_57 : decode cX10_said 57 = .ok (.aload_n 0, 1) := by decide +kernel
theorem dX10_said_58 : decode cX10_said 58 = .ok (.getfield 7, 3) := by decide +kernel
theorem dX10_said_61 : decode cX10_said 61 = .ok (.iconst 5, 1) := by decide +kernel
theorem dX10_said_62 : decode cX10_said 62 = .ok (.iaload, 1) := by decide +kernel
theorem dX10_said_63 : decode cX10_said 63 = .ok (.imul, 1) := by decide +kernel
theorem dX10_said_64 : decode cX10_said 64 = .ok (.iadd, 1) := by decide +kernel
theorem dX10_said_65 : decode cX10_said 65 = .ok (.istore 4, 2) := by decide +kernel
theorem dX10_said_67 : decode cX10_said 67 = .ok (.aload_n 0, 1) := by decide +kernel
theorem dX10_said_68 : decode cX10_said 68 = .ok (.getfield 7, 3) := by decide +kernel
theorem dX10_said_71 : decode cX10_said 71 = .ok (.iload 4, 2) := by decide +kernel
theorem dX10_said_73 : decode cX10_said 73 = .ok (.iload_n 1, 1) := by decide +kernel
theorem dX10_said_74 : decode cX10_said 74 = .ok (.iastore, 1) := by decide +kernel
theorem dX10_said_75 : decode cX10_said 75 = .ok (.aload_n 0, 1) := by decide +kernel
theorem dX10_said_76 : decode cX10_said 76 = .ok (.getfield 7, 3) := by decide +kernel
theorem dX10_said_79 : decode cX10_said 79 = .ok (.iload 4, 2) := by decide +kernel
theorem dX10_said_81 : decode cX10_said 81 = .ok (.iconst 1, 1) := by decide +kernel
theorem dX10_said_82 : decode cX10_said 82 = .ok (.iadd, 1) := by decide +kernel
theorem dX10_said_83 : decode cX10_said 83 = .ok (.iload_n 2, 1) := by decide +kernel
theorem dX10_said_84 : decode cX10_said 84 = .ok (.iastore, 1) := by decide +kernel
theorem dX10_said_85 : decode cX10_said 85 = .ok (.aload_n 0, 1) := by decide +kernel
theorem dX10_said_86 : decode cX10_said 86 = .ok (.getfield 7, 3) := by decide +kernel
theorem dX10_said_89 : decode cX10_said 89 = .ok (.iload 4, 2) := by decide +kernel
theorem dX10_said_91 : decode cX10_said 91 = .ok (.iconst 2, 1) := by decide +kernel
theorem dX10_said_92 : decode cX10_said 92 = .ok (.iadd, 1) := by decide +kernel
theorem dX10_said_93 : decode cX10_said 93 = .ok (.iload_n 3, 1) := by decide +kernel
theorem dX10_said_94 : decode cX10_said 94 = .ok (.iastore, 1) := by decide +kernel
theorem dX10_said_95 : decode cX10_said 95 = .ok (.aload_n 0, 1) := by decide +kernel
theorem dX10_said_96 : decode cX10_said 96 = .ok (.getfield 7, 3) := by decide +kernel
theorem dX10_said_99 : decode cX10_said 99 = .ok (.iconst 5, 1) := by decide +kernel
theorem dX10_said_100 : decode cX10_said 100 = .ok (.dup2, 1) := by decide +kernel
theorem dX10_said_101 : decode cX10_said 101 = .ok (.iaload, 1) := by decide +kernel
theorem dX10_said_102 : decode cX10_said 102 = .ok (.iconst 1, 1) := by decide +kernel
theorem dX10_said_103 : decode cX10_said 103 = .ok (.iadd, 1) := by decide +kernel
theorem dX10_said_104 : decode cX10_said 104 = .ok (.iastore, 1) := by decide +kernel
theorem dX10_said_105 : decode cX10_said 105 = .ok (.aload_n 0, 1) := by decide +kernel
theorem dX10_said_106 : decode cX10_said 106 = .ok (.getfield 7, 3) := by decide +kernel
theorem dX10_said_109 : decode cX10_said 109 = .ok (.iconst 5, 1) := by decide +kernel
theorem dX10_said_110 : decode cX10_said 110 = .ok (.iaload, 1) := by decide +kernel
theorem dX10_said_111 : decode cX10_said 111 = .ok (.ireturn, 1) := by decide +kernel
theorem dX10_whose_0 : decode cX10_whose 0 = .ok (.iconst 0, 1) := by decide +kernel
theorem dX10_whose_1 : decode cX10_whose 1 = .ok (.istore_n 1, 1) := by decide +kernel
theorem dX10_whose_2 : decode cX10_whose 2 = .ok (.iconst 0, 1) := by decide +kernel
theorem dX10_whose_3 : decode cX10_whose 3 = .ok (.istore_n 2, 1) := by decide +kernel
theorem dX10_whose_4 : decode cX10_whose 4 = .ok (.iload_n 2, 1) := by decide +kernel
theorem dX10_whose_5 : decode cX10_whose 5 = .ok (.aload_n 0, 1) := by decide +kernel
theorem dX10_whose_6 : decode cX10_whose 6 = .ok (.getfield 7, 3) := by decide +kernel
theorem dX10_whose_9 : decode cX10_whose 9 = .ok (.iconst 2, 1) := by decide +kernel
theorem dX10_whose_10 : decode cX10_whose 10 = .ok (.iaload, 1) := by decide +kernel
theorem dX10_whose_11 : decode cX10_whose 11 = .ok (.if_icmp .ge 95, 3) := by decide +kernel
theorem dX10_whose_14 : decode cX10_whose 14 = .ok (.iconst 1, 1) := by decide +kernel
theorem dX10_whose_15 : decode cX10_whose 15 = .ok (.istore_n 3, 1) := by decide +kernel
theorem dX10_whose_16 : decode cX10_whose 16 = .ok (.bipush 51, 2) := by decide +kernel
theorem dX10_whose_18 : decode cX10_whose 18 = .ok (.istore 4, 2) := by decide +kernel
theorem dX10_whose_20 : decode cX10_whose 20 = .ok (.iload 4, 2) := by decide +kernel
theorem dX10_whose_22 : decode cX10_whose 22 = .ok (.bipush 51, 2) := by decide +kernel
theorem dX10_whose_24 : decode cX10_whose 24 = .ok (.iconst 3, 1) := by decide +kernel
theorem dX10_whose_25 : decode cX10_whose 25 = .ok (.aload_n 0, 1) := by decide +kernel
theorem dX10_whose_26 : decode cX10_whose 26 = .ok (.getfield 7, 3) := by decide +kernel
theorem dX10_whose_29 : decode cX10_whose 29 = .ok (.iconst 5, 1) := by decide +kernel
theorem dX10_whose_30 : decode cX10_whose 30 = .ok (.iaload, 1) := by decide +kernel
theorem dX10_whose_31 : decode cX10_whose 31 = .ok (.imul, 1) := by decide +kernel
theorem dX10_whose_32 : decode cX10_whose 32 = .ok (.iadd, 1) := by decide +kernel
theorem dX10_whose_33 : decode cX10_whose 33 = .ok (.if_icmp .ge 53, 3) := by decide +kernel
theorem dX10_whose_36 : decode cX10_whose 36 = .ok (.iload_n 3, 1) := by decide +kernel
theorem dX10_whose_37 : decode cX10_whose 37 = .ok (.ifCond .eq 41, 3) := by decide +kernel
theorem dX10_whose_40 : decode cX10_whose 40 = .ok (.aload_n 0, 1) := by decide +kernel
theorem dX10_whose_41 : decode cX10_whose 41 = .ok (.iload_n 2, 1) := by decide +kernel
theorem dX10_whose_42 : decode cX10_whose 42 = .ok (.aload_n 0, 1) := by decide +kernel
theorem dX10_whose_43 : decode cX10_whose 43 = .ok (.getfield 7, 3) := by decide +kernel
theorem dX10_whose_46 : decode cX10_whose 46 = .ok (.iload 4, 2) := by decide +kernel
theorem dX10_whose_48 : decode cX10_whose 48 = .ok (.iaload, 1) := by decide +kernel
theorem dX10_whose_49 : decode cX10_whose 49 = .ok (.aload_n 0, 1) := by decide +kernel
theorem dX10_whose_50 : decode cX10_whose 50 = .ok (.getfield 7, 3) := by decide +kernel
theorem dX10_whose_53 : decode cX10_whose 53 = .ok (.iload 4, 2) := by decide +kernel
theorem dX10_whose_55 : decode cX10_whose 55 = .ok (.iconst 1, 1) := by decide +kernel
theorem dX10_whose_56 : decode cX10_whose 56 = .ok (.iadd, 1) := by decide +kernel
theorem dX10_whose_57 : decode cX10_whose 57 = .ok (.iaload, 1) := by decide +kernel
theorem dX10_whose_58 : decode cX10_whose 58 = .ok (.iconst 1, 1) := by decide +kernel
theorem dX10_whose_59 : decode cX10_whose 59 = .ok (.invokevirtual 290, 3) := by decide +kernel
theorem dX10_whose_62 : decode cX10_whose 62 = .ok (.aload_n 0, 1) := by decide +kernel
theorem dX10_whose_63 : decode cX10_whose 63 = .ok (.getfield 7, 3) := by decide +kernel
theorem dX10_whose_66 : decode cX10_whose 66 = .ok (.iload 4, 2) := by decide +kernel
theorem dX10_whose_68 : decode cX10_whose 68 = .ok (.iconst 2, 1) := by decide +kernel
theorem dX10_whose_69 : decode cX10_whose 69 = .ok (.iadd, 1) := by decide +kernel
theorem dX10_whose_70 : decode cX10_whose 70 = .ok (.iaload, 1) := by decide +kernel
theorem dX10_whose_71 : decode cX10_whose 71 = .ok (.if_icmp .ne 7, 3) := by decide +kernel
theorem dX10_whose_74 : decode cX10_whose 74 = .ok (.iconst 1, 1) := by decide +kernel
theorem dX10_whose_75 : decode cX10_whose 75 = .ok (.goto 4, 3) := by decide +kernel
theorem dX10_whose_78 : decode cX10_whose 78 = .ok (.iconst 0, 1) := by decide +kernel
theorem dX10_whose_79 : decode cX10_whose 79 = .ok (.istore_n 3, 1) := by decide +kernel
theorem dX10_whose_80 : decode cX10_whose 80 = .ok (.iinc 4 3, 3) := by decide +kernel
theorem dX10_whose_83 : decode cX10_whose 83 = .ok (.goto (-63), 3) := by decide +kernel
theorem dX10_whose_86 : decode cX10_whose 86 = .ok (.iload_n 1, 1) := by decide +kernel
theorem dX10_whose_87 : decode cX10_whose 87 = .ok (.iload_n 3, 1) := by decide +kernel
theorem dX10_whose_88 : decode cX10_whose 88 = .ok (.ifCond .eq 9, 3) := by decide +kernel
theorem dX10_whose_91 : decode cX10_whose 91 = .ok (.iconst 1, 1) := by decide +kernel
theorem dX10_whose_92 : decode cX10_whose 92 = .ok (.iload_n 2, 1) := by decide +kernel
theorem dX10_whose_93 : decode cX10_whose 93 = .ok (.ishl, 1) := by decide +kernel
theorem dX10_whose_94 : decode cX10_whose 94 = .ok (.goto 4, 3) := by decide +kernel
theorem dX10_whose_97 : decode cX10_whose 97 = .ok (.iconst 0, 1) := by decide +kernel
theorem dX10_whose_98 : decode cX10_whose 98 = .ok (.ior, 1) := by decide +kernel
theorem dX10_whose_99 : decode cX10_whose 99 = .ok (.istore_n 1, 1) := by decide +kernel
theorem dX10_whose_100 : decode cX10_whose 100 = .ok (.iinc 2 1, 3) := by decide +kernel
theorem dX10_whose_103 : decode cX10_whose 103 = .ok (.goto (-99), 3) := by decide +kernel
theorem dX10_whose_106 : decode cX10_whose 106 = .ok (.iload_n 1, 1) := by decide +kernel
theorem dX10_whose_107 : decode cX10_whose 107 = .ok (.ireturn, 1) := by decide +kernel
theorem dX10_image_0 : decode cX10_image 0 = .ok (.aload_n 0, 1) := by decide +kernel
theorem dX10_image_1 : decode cX10_image 1 = .ok (.getfield 7, 3) := by decide +kernel
theorem dX10_image_4 : decode cX10_image 4 = .ok (.aload_n 0, 1) := by decide +kernel
theorem dX10_image_5 : decode cX10_image 5 = .ok (.getfield 13, 3) := by decide +kernel
theorem dX10_image_8 : decode cX10_image 8 = .ok (.invokestatic 59, 3) := by decide +kernel
theorem dX10_image_11 : decode cX10_image 11 = .ok (.aload_n 0, 1) := by decide +kernel
theorem dX10_image_12 : decode cX10_image 12 = .ok (.getfield 7, 3) := by decide +kernel
theorem dX10_image_15 : decode cX10_image 15 = .ok (.bipush 6, 2) := by decide +kernel
theorem dX10_image_17 : decode cX10_image 17 = .ok (.iaload, 1) := by decide +kernel
theorem dX10_image_18 : decode cX10_image 18 = .ok (.ireturn, 1) := by decide +kernel
theorem dX10_back_0 : decode cX10_back 0 = .ok (.aload_n 0, 1) := by decide +kernel
theorem dX10_back_1 : decode cX10_back 1 = .ok (.getfield 13, 3) := by decide +kernel
theorem dX10_back_4 : decode cX10_back 4 = .ok (.aload_n 0, 1) := by decide +kernel
theorem dX10_back_5 : decode cX10_back 5 = .ok (.getfield 7, 3) := by decide +kernel
theorem dX10_back_8 : decode cX10_back 8 = .ok (.invokestatic 59, 3) := by decide +kernel
theorem dX10_back_11 : decode cX10_back 11 = .ok (.aload_n 0, 1) := by decide +kernel
theorem dX10_back_12 : decode cX10_back 12 = .ok (.getfield 7, 3) := by decide +kernel
theorem dX10_back_15 : decode cX10_back 15 = .ok (.bipush 6, 2) := by decide +kernel
theorem dX10_back_17 : decode cX10_back 17 = .ok (.iaload, 1) := by decide +kernel
theorem dX10_back_18 : decode cX10_back 18 = .ok (.ireturn, 1) := by decide +kernel
theorem dX10_about_0 : decode cX10_about 0 = .ok (.iload_n 1, 1) := by decide +kernel
theorem dX10_about_1 : decode cX10_about 1 = .ok (.iconst 0, 1) := by decide +kernel
theorem dX10_about_2 : decode cX10_about 2 = .ok (.iconst 5, 1) := by decide +kernel
theorem dX10_about_3 : decode cX10_about 3 = .ok (.invokestatic 63, 3) := by decide +kernel
theorem dX10_about_6 : decode cX10_about 6 = .ok (.ifCond .eq 12, 3) := by decide +kernel
theorem dX10_about_9 : decode cX10_about 9 = .ok (.aload_n 0, 1) := by decide +kernel
theorem dX10_about_10 : decode cX10_about 10 = .ok (.getfield 7, 3) := by decide +kernel
theorem dX10_about_13 : decode cX10_about 13 = .ok (.iload_n 1, 1) := by decide +kernel
theorem dX10_about_14 : decode cX10_about 14 = .ok (.iaload, 1) := by decide +kernel
theorem dX10_about_15 : decode cX10_about 15 = .ok (.goto 18, 3) := by decide +kernel
theorem dX10_about_18 : decode cX10_about 18 = .ok (.iload_n 1, 1) := by decide +kernel
theorem dX10_about_19 : decode cX10_about 19 = .ok (.bipush 6, 2) := by decide +kernel
theorem dX10_about_21 : decode cX10_about 21 = .ok (.if_icmp .ne 10, 3) := by decide +kernel
theorem dX10_about_24 : decode cX10_about 24 = .ok (.aload_n 0, 1) := by decide +kernel
theorem dX10_about_25 : decode cX10_about 25 = .ok (.getfield 71, 3) := by decide +kernel
theorem dX10_about_28 : decode cX10_about 28 = .ok (.goto 5, 3) := by decide +kernel
theorem dX10_about_31 : decode cX10_about 31 = .ok (.bipush (-2), 2) := by decide +kernel
theorem dX10_about_33 : decode cX10_about 33 = .ok (.ireturn, 1) := by decide +kernel
