theorem dX10_pass_46 : decode cX10_pass 46 = .ok (.aload_n 0, 1) := by decide +kernel
theorem dX10_pass_47 : decode cX10_pass 47 = .ok (.getfield 7, 3) := by decide +kernel
theorem dX10_pass_50 : decode cX10_pass 50 = .ok (.bipush 11, 2) := by decide +kernel
theorem dX10_pass_52 : decode cX10_pass 52 = .ok (.iload_n 2, 1) := by decide +kernel
theorem dX10_pass_53 : decode cX10_pass 53 = .ok (.iadd, 1) := by decide +kernel
theorem dX10_pass_54 : decode cX10_pass 54 = .ok (.iaload, 1) := by decide +kernel
theorem dX10_pass_55 : decode cX10_pass 55 = .ok (.ifCond .le 14, 3) := by decide +kernel
theorem dX10_pass_58 : decode cX10_pass 58 = .ok (.aload_n 0, 1) := by decide +kernel
theorem dX10_pass_59 : decode cX10_pass 59 = .ok (.iload_n 1, 1) := by decide +kernel
theorem dX10_pass_60 : decode cX10_pass 60 = .ok (.iload_n 2, 1) := by decide +kernel
theorem dX10_pass_61 : decode cX10_pass 61 = .ok (.iload_n 3, 1) := by decide +kernel
theorem dX10_pass_62 : decode cX10_pass 62 = .ok (.invokevirtual 307, 3) := by decide +kernel
theorem dX10_pass_65 : decode cX10_pass 65 = .ok (.ifCond .ge 4, 3) := by decide +kernel
theorem dX10_pass_68 : decode cX10_pass 68 = .ok (.return_, 1) := by decide +kernel
theorem dX10_pass_69 : decode cX10_pass 69 = .ok (.aload_n 0, 1) := by decide +kernel
theorem dX10_pass_70 : decode cX10_pass 70 = .ok (.getfield 7, 3) := by decide +kernel
theorem dX10_pass_73 : decode cX10_pass 73 = .ok (.bipush 6, 2) := by decide +kernel
theorem dX10_pass_75 : decode cX10_pass 75 = .ok (.dup2, 1) := by decide +kernel
theorem dX10_pass_76 : decode cX10_pass 76 = .ok (.iaload, 1) := by decide +kernel
theorem dX10_pass_77 : decode cX10_pass 77 = .ok (.iconst 1, 1) := by decide +kernel
theorem dX10_pass_78 : decode cX10_pass 78 = .ok (.iadd, 1) := by decide +kernel
theorem dX10_pass_79 : decode cX10_pass 79 = .ok (.iastore, 1) := by decide +kernel
theorem dX10_pass_80 : decode cX10_pass 80 = .ok (.return_, 1) := by decide +kernel
theorem dX10_keep_0 : decode cX10_keep 0 = .ok (.aload_n 0, 1) := by decide +kernel
theorem dX10_keep_1 : decode cX10_keep 1 = .ok (.getfield 7, 3) := by decide +kernel
theorem dX10_keep_4 : decode cX10_keep 4 = .ok (.iconst 4, 1) := by decide +kernel
theorem dX10_keep_5 : decode cX10_keep 5 = .ok (.iaload, 1) := by decide +kernel
theorem dX10_keep_6 : decode cX10_keep 6 = .ok (.bipush 30, 2) := by decide +kernel
theorem dX10_keep_8 : decode cX10_keep 8 = .ok (.if_icmp .ne 47, 3) := by decide +kernel
theorem dX10_keep_11 : decode cX10_keep 11 = .ok (.iconst 0, 1) := by decide +kernel
theorem dX10_keep_12 : decode cX10_keep 12 = .ok (.istore_n 1, 1) := by decide +kernel
theorem dX10_keep_13 : decode cX10_keep 13 = .ok (.iload_n 1, 1) := by decide +kernel
theorem dX10_keep_14 : decode cX10_keep 14 = .ok (.sipush 2784, 3) := by decide +kernel
theorem dX10_keep_17 : decode cX10_keep 17 = .ok (.if_icmp .ge 28, 3) := by decide +kernel
theorem dX10_keep_20 : decode cX10_keep 20 = .ok (.aload_n 0, 1) := by decide +kernel
theorem dX10_keep_21 : decode cX10_keep 21 = .ok (.getfield 7, 3) := by decide +kernel
theorem dX10_keep_24 : decode cX10_keep 24 = .ok (.bipush 75, 2) := by decide +kernel
theorem dX10_keep_26 : decode cX10_keep 26 = .ok (.iload_n 1, 1) := by decide +kernel
theorem dX10_keep_27 : decode cX10_keep 27 = .ok (.iadd, 1) := by decide +kernel
theorem dX10_keep_28 : decode cX10_keep 28 = .ok (.aload_n 0, 1) := by decide +kernel
theorem dX10_keep_29 : decode cX10_keep 29 = .ok (.getfield 7, 3) := by decide +kernel
theorem dX10_keep_32 : decode cX10_keep 32 = .ok (.sipush 171, 3) := by decide +kernel
theorem dX10_keep_35 : decode cX10_keep 35 = .ok (.iload_n 1, 1) := by decide +kernel
theorem dX10_keep_36 : decode cX10_keep 36 = .ok (.iadd, 1) := by decide +kernel
theorem dX10_keep_37 : decode cX10_keep 37 = .ok (.iaload, 1) := by decide +kernel
theorem dX10_keep_38 : decode cX10_keep 38 = .ok (.iastore, 1) := by decide +kernel
theorem dX10_keep_39 : decode cX10_keep 39 = .ok (.iinc 1 1, 3) := by decide +kernel
theorem dX10_keep_42 : decode cX10_keep 42 = .ok (.goto (-29), 3) := by decide +kernel
theorem dX10_keep_45 : decode cX10_keep 45 = .ok (.aload_n 0, 1) := by decide +kernel
theorem dX10_keep_46 : decode cX10_keep 46 = .ok (.getfield 7, 3) := by decide +kernel
theorem dX10_keep_49 : decode cX10_keep 49 = .ok (.iconst 4, 1) := by decide +kernel
theorem dX10_keep_50 : decode cX10_keep 50 = .ok (.dup2, 1) := by decide +kernel
theorem dX10_keep_51 : decode cX10_keep 51 = .ok (.iaload, 1) := by decide +kernel
theorem dX10_keep_52 : decode cX10_keep 52 = .ok (.iconst 1, 1) := by decide +kernel
theorem dX10_keep_53 : decode cX10_keep 53 = .ok (.isub, 1) := by decide +kernel
theorem dX10_keep_54 : decode cX10_keep 54 = .ok (.iastore, 1) := by decide +kernel
theorem dX10_keep_55 : decode cX10_keep 55 = .ok (.bipush 75, 2) := by decide +kernel
theorem dX10_keep_57 : decode cX10_keep 57 = .ok (.bipush 96, 2) := by decide +kernel
theorem dX10_keep_59 : decode cX10_keep 59 = .ok (.aload_n 0, 1) := by decide +kernel
theorem dX10_keep_60 : decode cX10_keep 60 = .ok (.getfield 7, 3) := by decide +kernel
theorem dX10_keep_63 : decode cX10_keep 63 = .ok (.iconst 4, 1) := by decide +kernel
theorem dX10_keep_64 : decode cX10_keep 64 = .ok (.iaload, 1) := by decide +kernel
theorem dX10_keep_65 : decode cX10_keep 65 = .ok (.imul, 1) := by decide +kernel
theorem dX10_keep_66 : decode cX10_keep 66 = .ok (.iadd, 1) := by decide +kernel
theorem dX10_keep_67 : decode cX10_keep 67 = .ok (.istore_n 1, 1) := by decide +kernel
theorem dX10_keep_68 : decode cX10_keep 68 = .ok (.aload_n 0, 1) := by decide +kernel
theorem dX10_keep_69 : decode cX10_keep 69 = .ok (.getfield 7, 3) := by decide +kernel
theorem dX10_keep_72 : decode cX10_keep 72 = .ok (.iload_n 1, 1) := by decide +kernel
theorem dX10_keep_73 : decode cX10_keep 73 = .ok (.aload_n 0, 1) := by decide +kernel
theorem dX10_keep_74 : decode cX10_keep 74 = .ok (.getfield 7, 3) := by decide +kernel
theorem dX10_keep_77 : decode cX10_keep 77 = .ok (.iconst 1, 1) := by decide +kernel
theorem dX10_keep_78 : decode cX10_keep 78 = .ok (.iaload, 1) := by decide +kernel
theorem dX10_keep_79 : decode cX10_keep 79 = .ok (.iastore, 1) := by decide +kernel
theorem dX10_keep_80 : decode cX10_keep 80 = .ok (.iconst 0, 1) := by decide +kernel
theorem dX10_keep_81 : decode cX10_keep 81 = .ok (.istore_n 2, 1) := by decide +kernel
theorem dX10_keep_82 : decode cX10_keep 82 = .ok (.iload_n 2, 1) := by decide +kernel
theorem dX10_keep_83 : decode cX10_keep 83 = .ok (.bipush 35, 2) := by decide +kernel
theorem dX10_keep_85 : decode cX10_keep 85 = .ok (.if_icmp .ge 28, 3) := by decide +kernel
theorem dX10_keep_88 : decode cX10_keep 88 = .ok (.aload_n 0, 1) := by decide +kernel
theorem dX10_keep_89 : decode cX10_keep 89 = .ok (.getfield 7, 3) := by decide +kernel
theorem dX10_keep_92 : decode cX10_keep 92 = .ok (.iload_n 1, 1) := by decide +kernel
theorem dX10_keep_93 : decode cX10_keep 93 = .ok (.iconst 1, 1) := by decide +kernel
theorem dX10_keep_94 : decode cX10_keep 94 = .ok (.iadd, 1) := by decide +kernel
theorem dX10_keep_95 : decode cX10_keep 95 = .ok (.iload_n 2, 1) := by decide +kernel
theorem dX10_keep_96 : decode cX10_keep 96 = .ok (.iadd, 1) := by decide +kernel
theorem dX10_keep_97 : decode cX10_keep 97 = .ok (.aload_n 0, 1) := by decide +kernel
theorem dX10_keep_98 : decode cX10_keep 98 = .ok (.getfield 7, 3) := by decide +kernel
theorem dX10_keep_101 : decode cX10_keep 101 = .ok (.bipush 6, 2) := by decide +kernel
theorem dX10_keep_103 : decode cX10_keep 103 = .ok (.iload_n 2, 1) := by decide +kernel
theorem dX10_keep_104 : decode cX10_keep 104 = .ok (.iadd, 1) := by decide +kernel
theorem dX10_keep_105 : decode cX10_keep 105 = .ok (.iaload, 1) := by decide +kernel
theorem dX10_keep_106 : decode cX10_keep 106 = .ok (.iastore, 1) := by decide +kernel
theorem dX10_keep_107 : decode cX10_keep 107 = .ok (.iinc 2 1, 3) := by decide +kernel
theorem dX10_keep_110 : decode cX10_keep 110 = .ok (.goto (-28), 3) := by decide +kernel
theorem dX10_keep_113 : decode cX10_keep 113 = .ok (.iconst 0, 1) := by decide +kernel
theorem dX10_keep_114 : decode cX10_keep 114 = .ok (.istore_n 2, 1) := by decide +kernel
theorem dX10_keep_115 : decode cX10_keep 115 = .ok (.iload_n 2, 1) := by decide +kernel
theorem dX10_keep_116 : decode cX10_keep 116 = .ok (.bipush 60, 2) := by decide +kernel
theorem dX10_keep_118 : decode cX10_keep 118 = .ok (.if_icmp .ge 30, 3) := by decide +kernel
theorem dX10_keep_121 : decode cX10_keep 121 = .ok (.aload_n 0, 1) := by decide +kernel
theorem dX10_keep_122 : decode cX10_keep 122 = .ok (.getfield 7, 3) := by decide +kernel
theorem dX10_keep_125 : decode cX10_keep 125 = .ok (.iload_n 1, 1) := by decide +kernel
theorem dX10_keep_126 : decode cX10_keep 126 = .ok (.bipush 36, 2) := by decide +kernel
theorem dX10_keep_128 : decode cX10_keep 128 = .ok (.iadd, 1) := by decide +kernel
theorem dX10_keep_129 : decode cX10_keep 129 = .ok (.iload_n 2, 1) := by decide +kernel
theorem dX10_keep_130 : decode cX10_keep 130 = .ok (.iadd, 1) := by decide +kernel
theorem dX10_keep_131 : decode cX10_keep 131 = .ok (.aload_n 0, 1) := by decide +kernel
theorem dX10_keep_132 : decode cX10_keep 132 = .ok (.getfield 7, 3) := by decide +kernel
theorem dX10_keep_135 : decode cX10_keep 135 = .ok (.sipush 2955, 3) := by decide +kernel
theorem dX10_keep_138 : decode cX10_keep 138 = .ok (.iload_n 2, 1) := by decide +kernel
theorem dX10_keep_139 : decode cX10_keep 139 = .ok (.iadd, 1) := by decide +kernel
theorem dX10_keep_140 : decode cX10_keep 140 = .ok (.iaload, 1) := by decide +kernel
theorem dX10_keep_141 : decode cX10_keep 141 = .ok (.iastore, 1) := by decide +kernel
theorem dX10_keep_142 : decode cX10_keep 142 = .ok (.iinc 2 1, 3) := by decide +kernel
theorem dX10_keep_145 : decode cX10_keep 145 = .ok (.goto (-30), 3) := by decide +kernel
theorem dX10_keep_148 : decode cX10_keep 148 = .ok (.aload_n 0, 1) := by decide +kernel
theorem dX10_keep_149 : decode cX10_keep 149 = .ok (.getfield 7, 3) := by decide +kernel
theorem dX10_keep_152 : decode cX10_keep 152 = .ok (.iconst 4, 1) := by decide +kernel
theorem dX10_keep_153 : decode cX10_keep 153 = .ok (.dup2, 1) := by decide +kernel
theorem dX10_keep_154 : decode cX10_keep 154 = .ok (.iaload, 1) := by decide +kernel
theorem dX10_keep_155 : decode cX10_keep 155 = .ok (.iconst 1, 1) := by decide +kernel
theorem dX10_keep_156 : decode cX10_keep 156 = .ok (.iadd, 1) := by decide +kernel
theorem dX10_keep_157 : decode cX10_keep 157 = .ok (.iastore, 1) := by decide +kernel
theorem dX10_keep_158 : decode cX10_keep 158 = .ok (.return_, 1) := by decide +kernel
theorem dX10_undo_0 : decode cX10_undo 0 = .ok (.aload_n 0, 1) := by decide +kernel
theorem dX10_undo_1 : decode cX10_undo 1 = .ok (.getfield 7, 3) := by decide +kernel
theorem dX10_undo_4 : decode cX10_undo 4 = .ok (.iconst 4, 1) := by decide +kernel
theorem dX10_undo_5 : decode cX10_undo 5 = .ok (.iaload, 1) := by decide +kernel
theorem dX10_undo_6 : decode cX10_undo 6 = .ok (.ifCond .ne 5, 3) := by decide +kernel
theorem dX10_undo_9 : decode cX10_undo 9 = .ok (.iconst (-1), 1) := by decide +kernel
theorem dX10_undo_10 : decode cX10_undo 10 = .ok (.ireturn, 1) := by decide +kernel
theorem dX10_undo_11 : decode cX10_undo 11 = .ok (.aload_n 0, 1) := by decide +kernel
theorem dX10_undo_12 : decode cX10_undo 12 = .ok (.getfield 7, 3) := by decide +kernel
theorem dX10_undo_15 : decode cX10_undo 15 = .ok (.iconst 4, 1) := by decide +kernel
theorem dX10_undo_16 : decode cX10_undo 16 = .ok (.dup2, 1) := by decide +kernel
theorem dX10_undo_17 : decode cX10_undo 17 = .ok (.iaload, 1) := by decide +kernel
theorem dX10_undo_18 : decode cX10_undo 18 = .ok (.iconst 1, 1) := by decide +kernel
theorem dX10_undo_19 : decode cX10_undo 19 = .ok (.isub, 1) := by decide +kernel
theorem dX10_undo_20 : decode cX10_undo 20 = .ok (.iastore, 1) := by decide +kernel
theorem dX10_undo_21 : decode cX10_undo 21 = .ok (.bipush 75, 2) := by decide +kernel
theorem dX10_undo_23 : decode cX10_undo 23 = .ok (.bipush 96, 2) := by decide +kernel
theorem dX10_undo_25 : decode cX10_undo 25 = .ok (.aload_n 0, 1) := by decide +kernel
theorem dX10_undo_26 : decode cX10_undo 26 = .ok (.getfield 7, 3) := by decide +kernel
theorem dX10_undo_29 : decode cX10_undo 29 = .ok (.iconst 4, 1) := by decide +kernel
theorem dX10_undo_30 : decode cX10_undo 30 = .ok (.iaload, 1) := by decide +kernel
theorem dX10_undo_31 : decode cX10_undo 31 = .ok (.imul, 1) := by decide +kernel
theorem dX10_undo_32 : decode cX10_undo 32 = .ok (.iadd, 1) := by decide +kernel
theorem dX10_undo_33 : decode cX10_undo 33 = .ok (.istore_n 1, 1) := by decide +kernel
theorem dX10_undo_34 : decode cX10_undo 34 = .ok (.iconst 0, 1) := by decide +kernel
theorem dX10_undo_35 : decode cX10_undo 35 = .ok (.istore_n 2, 1) := by decide +kernel
theorem dX10_undo_36 : decode cX10_undo 36 = .ok (.iload_n 2, 1) := by decide +kernel
theorem dX10_undo_37 : decode cX10_undo 37 = .ok (.bipush 35, 2) := by decide +kernel
theorem dX10_undo_39 : decode cX10_undo 39 = .ok (.if_icmp .ge 28, 3) := by decide +kernel
theorem dX10_undo_42 : decode cX10_undo 42 = .ok (.aload_n 0, 1) := by decide +kernel
theorem dX10_undo_43 : decode cX10_undo 43 = .ok (.getfield 7, 3) := by decide +kernel
theorem dX10_undo_46 : decode cX10_undo 46 = .ok (.bipush 6, 2) := by decide +kernel
theorem dX10_undo_48 : decode cX10_undo 48 = .ok (.iload_n 2, 1) := by decide +kernel
theorem dX10_undo_49 : decode cX10_undo 49 = .ok (.iadd, 1) := by decide +kernel
theorem dX10_undo_50 : decode cX10_undo 50 = .ok (.aload_n 0, 1) := by decide +kernel
theorem dX10_undo_51 : decode cX10_undo 51 = .ok (.getfield 7, 3) := by decide +kernel
theorem dX10_undo_54 : decode cX10_undo 54 = .ok (.iload_n 1, 1) := by decide +kernel
theorem dX10_undo_55 : decode cX10_undo 55 = .ok (.iconst 1, 1) := by decide +kernel
theorem dX10_undo_56 : decode cX10_undo 56 = .ok (.iadd, 1) := by decide +kernel
theorem dX10_undo_57 : decode cX10_undo 57 = .ok (.iload_n 2, 1) := by decide +kernel
theorem dX10_undo_58 : decode cX10_undo 58 = .ok (.iadd, 1) := by decide +kernel
theorem dX10_undo_59 : decode cX10_undo 59 = .ok (.iaload, 1) := by decide +kernel
theorem dX10_undo_60 : decode cX10_undo 60 = .ok (.iastore, 1) := by decide +kernel
theorem dX10_undo_61 : decode cX10_undo 61 = .ok (.iinc 2 1, 3) := by decide +kernel
theorem dX10_undo_64 : decode cX10_undo 64 = .ok (.goto (-28), 3) := by decide +kernel
theorem dX10_undo_67 : decode cX10_undo 67 = .ok (.aload_n 0, 1) := by decide +kernel
theorem dX10_undo_68 : decode cX10_undo 68 = .ok (.getfield 7, 3) := by decide +kernel
theorem dX10_undo_71 : decode cX10_undo 71 = .ok (.iload_n 1, 1) := by decide +kernel
theorem dX10_undo_72 : decode cX10_undo 72 = .ok (.iaload, 1) := by decide +kernel
theorem dX10_undo_73 : decode cX10_undo 73 = .ok (.istore_n 2, 1) := by decide +kernel
theorem dX10_undo_74 : decode cX10_undo 74 = .ok (.iload_n 2, 1) := by decide +kernel
theorem dX10_undo_75 : decode cX10_undo 75 = .ok (.aload_n 0, 1) := by decide +kernel
theorem dX10_undo_76 : decode cX10_undo 76 = .ok (.getfield 7, 3) := by decide +kernel
theorem dX10_undo_79 : decode cX10_undo 79 = .ok (.iconst 1, 1) := by decide +kernel
theorem dX10_undo_80 : decode cX10_undo 80 = .ok (.iaload, 1) := by decide +kernel
theorem dX10_undo_81 : decode cX10_undo 81 = .ok (.if_icmp .ge 27, 3) := by decide +kernel
theorem dX10_undo_84 : decode cX10_undo 84 = .ok (.aload_n 0, 1) := by decide +kernel
theorem dX10_undo_85 : decode cX10_undo 85 = .ok (.getfield 7, 3) := by decide +kernel
theorem dX10_undo_88 : decode cX10_undo 88 = .ok (.bipush 35, 2) := by decide +kernel
theorem dX10_undo_90 : decode cX10_undo 90 = .ok (.iload_n 2, 1) := by decide +kernel
theorem dX10_undo_91 : decode cX10_undo 91 = .ok (.iadd, 1) := by decide +kernel
theorem dX10_undo_92 : decode cX10_undo 92 = .ok (.aload_n 0, 1) := by decide +kernel
theorem dX10_undo_93 : decode cX10_undo 93 = .ok (.getfield 7, 3) := by decide +kernel
theorem dX10_undo_96 : decode cX10_undo 96 = .ok (.bipush 41, 2) := by decide +kernel
theorem dX10_undo_98 : decode cX10_undo 98 = .ok (.iload_n 2, 1) := by decide +kernel
theorem dX10_undo_99 : decode cX10_undo 99 = .ok (.iadd, 1) := by decide +kernel
theorem dX10_undo_100 : decode cX10_undo 100 = .ok (.iaload, 1) := by decide +kernel
theorem dX10_undo_101 : decode cX10_undo 101 = .ok (.iastore, 1) := by decide +kernel
theorem dX10_undo_102 : decode cX10_undo 102 = .ok (.iinc 2 1, 3) := by decide +kernel
theorem dX10_undo_105 : decode cX10_undo 105 = .ok (.goto (-31), 3) := by decide +kernel
theorem dX10_undo_108 : decode cX10_undo 108 = .ok (.iconst 0, 1) := by decide +kernel
theorem dX10_undo_109 : decode cX10_undo 109 = .ok (.istore_n 2, 1) := by decide +kernel
theorem dX10_undo_110 : decode cX10_undo 110 = .ok (.iload_n 2, 1) := by decide +kernel
theorem dX10_undo_111 : decode cX10_undo 111 = .ok (.bipush 60, 2) := by decide +kernel
theorem dX10_undo_113 : decode cX10_undo 113 = .ok (.if_icmp .ge 30, 3) := by decide +kernel
theorem dX10_undo_116 : decode cX10_undo 116 = .ok (.aload_n 0, 1) := by decide +kernel
theorem dX10_undo_117 : decode cX10_undo 117 = .ok (.getfield 7, 3) := by decide +kernel
theorem dX10_undo_120 : decode cX10_undo 120 = .ok (.sipush 2955, 3) := by decide +kernel
theorem dX10_undo_123 : decode cX10_undo 123 = .ok (.iload_n 2, 1) := by decide +kernel
theorem dX10_undo_124 : decode cX10_undo 124 = .ok (.iadd, 1) := by decide +kernel
theorem dX10_undo_125 : decode cX10_undo 125 = .ok (.aload_n 0, 1) := by decide +kernel
theorem dX10_undo_126 : decode cX10_undo 126 = .ok (.getfield 7, 3) := by decide +kernel
theorem dX10_undo_129 : decode cX10_undo 129 = .ok (.iload_n 1, 1) := by decide +kernel
theorem dX10_undo_130 : decode cX10_undo 130 = .ok (.bipush 36, 2) := by decide +kernel
theorem dX10_undo_132 : decode cX10_undo 132 = .ok (.iadd, 1) := by decide +kernel
theorem dX10_undo_133 : decode cX10_undo 133 = .ok (.iload_n 2, 1) := by decide +kernel
theorem dX10_undo_134 : decode cX10_undo 134 = .ok (.iadd, 1) := by decide +kernel
theorem dX10_undo_135 : decode cX10_undo 135 = .ok (.iaload, 1) := by decide +kernel
theorem dX10_undo_136 : decode cX10_undo 136 = .ok (.iastore, 1) := by decide +kernel
theorem dX10_undo_137 : decode cX10_undo 137 = .ok (.iinc 2 1, 3) := by decide +kernel
theorem dX10_undo_140 : decode cX10_undo 140 = .ok (.goto (-30), 3) := by decide +kernel
theorem dX10_undo_143 : decode cX10_undo 143 = .ok (.aload_n 0, 1) := by decide +kernel
theorem dX10_undo_144 : decode cX10_undo 144 = .ok (.getfield 7, 3) := by decide +kernel
theorem dX10_undo_147 : decode cX10_undo 147 = .ok (.iconst 4, 1) := by decide +kernel
theorem dX10_undo_148 : decode cX10_undo 148 = .ok (.iaload, 1) := by decide +kernel
theorem dX10_undo_149 : decode cX10_undo 149 = .ok (.ireturn, 1) := by decide +kernel
theorem dX10_canStroke_0 : decode cX10_canStroke 0 = .ok (.aload_n 0, 1) := by decide +kernel
theorem dX10_canStroke_1 : decode cX10_canStroke 1 = .ok (.iload_n 1, 1) := by decide +kernel
theorem dX10_canStroke_2 : decode cX10_canStroke 2 = .ok (.invokevirtual 311, 3) := by decide +kernel
theorem dX10_canStroke_5 : decode cX10_canStroke 5 = .ok (.ifCond .eq 26, 3) := by decide +kernel
theorem dX10_canStroke_8 : decode cX10_canStroke 8 = .ok (.iload_n 2, 1) := by decide +kernel
theorem dX10_canStroke_9 : decode cX10_canStroke 9 = .ok (.invokestatic 67, 3) := by decide +kernel
theorem dX10_canStroke_12 : decode cX10_canStroke 12 = .ok (.ifCond .eq 19, 3) := by decide +kernel
theorem dX10_canStroke_15 : decode cX10_canStroke 15 = .ok (.aload_n 0, 1) := by decide +kernel
theorem dX10_canStroke_16 : decode cX10_canStroke 16 = .ok (.getfield 7, 3) := by decide +kernel
theorem dX10_canStroke_19 : decode cX10_canStroke 19 = .ok (.bipush 11, 2) := by decide +kernel
theorem dX10_canStroke_21 : decode cX10_canStroke 21 = .ok (.iload_n 2, 1) := by decide +kernel
theorem dX10_canStroke_22 : decode cX10_canStroke 22 = .ok (.iadd, 1) := by decide +kernel
theorem dX10_canStroke_23 : decode cX10_canStroke 23 = .ok (.iaload, 1) := by decide +kernel
theorem dX10_canStroke_24 : decode cX10_canStroke 24 = .ok (.ifCond .le 7, 3) := by decide +kernel
theorem dX10_canStroke_27 : decode cX10_canStroke 27 = .ok (.iconst 1, 1) := by decide +kernel
theorem dX10_canStroke_28 : decode cX10_canStroke 28 = .ok (.goto 4, 3) := by decide +kernel
theorem dX10_canStroke_31 : decode cX10_canStroke 31 = .ok (.iconst 0, 1) := by decide +kernel
theorem dX10_canStroke_32 : decode cX10_canStroke 32 = .ok (.ireturn, 1) := by decide +kernel
theorem dX10_stroke_0 : decode cX10_stroke 0 = .ok (.aload_n 0, 1) := by decide +kernel
theorem dX10_stroke_1 : decode cX10_stroke 1 = .ok (.iload_n 1, 1) := by decide +kernel
theorem dX10_stroke_2 : decode cX10_stroke 2 = .ok (.iload_n 2, 1) := by decide +kernel
theorem dX10_stroke_3 : decode cX10_stroke 3 = .ok (.invokevirtual 314, 3) := by decide +kernel
theorem dX10_stroke_6 : decode cX10_stroke 6 = .ok (.ifCond .ne 5, 3) := by decide +kernel
theorem dX10_stroke_9 : decode cX10_stroke 9 = .ok (.iconst (-1), 1) := by decide +kernel
theorem dX10_stroke_10 : decode cX10_stroke 10 = .ok (.ireturn, 1) := by decide +kernel
theorem dX10_stroke_11 : decode cX10_stroke 11 = .ok (.aload_n 0, 1) := by decide +kernel
theorem dX10_stroke_12 : decode cX10_stroke 12 = .ok (.invokevirtual 317, 3) := by decide +kernel
theorem dX10_stroke_15 : decode cX10_stroke 15 = .ok (.aload_n 0, 1) := by decide +kernel
theorem dX10_stroke_16 : decode cX10_stroke 16 = .ok (.iload_n 1, 1) := by decide +kernel
theorem dX10_stroke_17 : decode cX10_stroke 17 = .ok (.iload_n 2, 1) := by decide +kernel
theorem dX10_stroke_18 : decode cX10_stroke 18 = .ok (.iload_n 3, 1) := by decide +kernel
theorem dX10_stroke_19 : decode cX10_stroke 19 = .ok (.invokevirtual 307, 3) := by decide +kernel
theorem dX10_stroke_22 : decode cX10_stroke 22 = .ok (.ireturn, 1) := by decide +kernel
theorem dX10_trimNow_0 : decode cX10_trimNow 0 = .ok (.aload_n 0, 1) := by decide +kernel
theorem dX10_trimNow_1 : decode cX10_trimNow 1 = .ok (.getfield 7, 3) := by decide +kernel
theorem dX10_trimNow_4 : decode cX10_trimNow 4 = .ok (.bipush 8, 2) := by decide +kernel
theorem dX10_trimNow_6 : decode cX10_trimNow 6 = .ok (.dup2, 1) := by decide +kernel
theorem dX10_trimNow_7 : decode cX10_trimNow 7 = .ok (.iaload, 1) := by decide +kernel
theorem dX10_trimNow_8 : decode cX10_trimNow 8 = .ok (.aload_n 0, 1) := by decide +kernel
theorem dX10_trimNow_9 : decode cX10_trimNow 9 = .ok (.getfield 7, 3) := by decide +kernel
theorem dX10_trimNow_12 : decode cX10_trimNow 12 = .ok (.bipush 9, 2) := by decide +kernel
theorem dX10_trimNow_14 : decode cX10_trimNow 14 = .ok (.iaload, 1) := by decide +kernel
theorem dX10_trimNow_15 : decode cX10_trimNow 15 = .ok (.iadd, 1) := by decide +kernel
theorem dX10_trimNow_16 : decode cX10_trimNow 16 = .ok (.iastore, 1) := by decide +kernel
theorem dX10_trimNow_17 : decode cX10_trimNow 17 = .ok (.aload_n 0, 1) := by decide +kernel
theorem dX10_trimNow_18 : decode cX10_trimNow 18 = .ok (.getfield 7, 3) := by decide +kernel
theorem dX10_trimNow_21 : decode cX10_trimNow 21 = .ok (.bipush 9, 2) := by decide +kernel
theorem dX10_trimNow_23 : decode cX10_trimNow 23 = .ok (.iconst 0, 1) := by decide +kernel
theorem dX10_trimNow_24 : decode cX10_trimNow 24 = .ok (.iastore, 1) := by decide +kernel
theorem dX10_trimNow_25 : decode cX10_trimNow 25 = .ok (.return_, 1) := by decide +kernel
theorem dX10_trim_0 : decode cX10_trim 0 = .ok (.aload_n 0, 1) := by decide +kernel
theorem dX10_trim_1 : decode cX10_trim 1 = .ok (.getfield 7, 3) := by decide +kernel
theorem dX10_trim_4 : decode cX10_trim 4 = .ok (.bipush 9, 2) := by decide +kernel
theorem dX10_trim_6 : decode cX10_trim 6 = .ok (.iaload, 1) := by decide +kernel
theorem dX10_trim_7 : decode cX10_trim 7 = .ok (.istore_n 1, 1) := by decide +kernel
theorem dX10_trim_8 : decode cX10_trim 8 = .ok (.iload_n 1, 1) := by decide +kernel
theorem dX10_trim_9 : decode cX10_trim 9 = .ok (.ifCond .ne 5, 3) := by decide +kernel
theorem dX10_trim_12 : decode cX10_trim 12 = .ok (.iconst (-1), 1) := by decide +kernel
theorem dX10_trim_13 : decode cX10_trim 13 = .ok (.ireturn, 1) := by decide +kernel
theorem dX10_trim_14 : decode cX10_trim 14 = .ok (.aload_n 0, 1) := by decide +kernel
theorem dX10_trim_15 : decode cX10_trim 15 = .ok (.invokevirtual 317, 3) := by decide +kernel
theorem dX10_trim_18 : decode cX10_trim 18 = .ok (.aload_n 0, 1) := by decide +kernel
theorem dX10_trim_19 : decode cX10_trim 19 = .ok (.invokevirtual 320, 3) := by decide +kernel
theorem dX10_trim_22 : decode cX10_trim 22 = .ok (.iload_n 1, 1) := by decide +kernel
theorem dX10_trim_23 : decode cX10_trim 23 = .ok (.ireturn, 1) := by decide +kernel
theorem dX10_canPatch_0 : decode cX10_canPatch 0 = .ok (.iload_n 1, 1) := by decide +kernel
theorem dX10_canPatch_1 : decode cX10_canPatch 1 = .ok (.invokestatic 67, 3) := by decide +kernel
theorem dX10_canPatch_4 : decode cX10_canPatch 4 = .ok (.ifCond .eq 41, 3) := by decide +kernel
theorem dX10_canPatch_7 : decode cX10_canPatch 7 = .ok (.iload_n 2, 1) := by decide +kernel
theorem dX10_canPatch_8 : decode cX10_canPatch 8 = .ok (.iconst 1, 1) := by decide +kernel
theorem dX10_canPatch_9 : decode cX10_canPatch 9 = .ok (.bipush 99, 2) := by decide +kernel
theorem dX10_canPatch_11 : decode cX10_canPatch 11 = .ok (.invokestatic 63, 3) := by decide +kernel
theorem dX10_canPatch_14 : decode cX10_canPatch 14 = .ok (.ifCond .eq 31, 3) := by decide +kernel
theorem dX10_canPatch_17 : decode cX10_canPatch 17 = .ok (.aload_n 0, 1) := by decide +kernel
theorem dX10_canPatch_18 : decode cX10_canPatch 18 = .ok (.getfield 7, 3) := by decide +kernel
theorem dX10_canPatch_21 : decode cX10_canPatch 21 = .ok (.bipush 23, 2) := by decide +kernel
theorem dX10_canPatch_23 : decode cX10_canPatch 23 = .ok (.iload_n 1, 1) := by decide +kernel
theorem dX10_canPatch_24 : decode cX10_canPatch 24 = .ok (.iadd, 1) := by decide +kernel
theorem dX10_canPatch_25 : decode cX10_canPatch 25 = .ok (.iaload, 1) := by decide +kernel
theorem dX10_canPatch_26 : decode cX10_canPatch 26 = .ok (.iconst 1, 1) := by decide +kernel
theorem dX10_canPatch_27 : decode cX10_canPatch 27 = .ok (.if_icmp .ne 18, 3) := by decide +kernel
theorem dX10_canPatch_30 : decode cX10_canPatch 30 = .ok (.aload_n 0, 1) := by decide +kernel
theorem dX10_canPatch_31 : decode cX10_canPatch 31 = .ok (.getfield 7, 3) := by decide +kernel
theorem dX10_canPatch_34 : decode cX10_canPatch 34 = .ok (.bipush 8, 2) := by decide +kernel
theorem dX10_canPatch_36 : decode cX10_canPatch 36 = .ok (.iaload, 1) := by decide +kernel
theorem dX10_canPatch_37 : decode cX10_canPatch 37 = .ok (.iload_n 2, 1) := by decide +kernel
theorem dX10_canPatch_38 : decode cX10_canPatch 38 = .ok (.if_icmp .lt 7, 3) := by decide +kernel
theorem dX10_canPatch_41 : decode cX10_canPatch 41 = .ok (.iconst 1, 1) := by decide +kernel
theorem dX10_canPatch_42 : decode cX10_canPatch 42 = .ok (.goto 4, 3) := by decide +kernel
theorem dX10_canPatch_45 : decode cX10_canPatch 45 = .ok (.iconst 0, 1) := by decide +kernel
theorem dX10_canPatch_46 : decode cX10_canPatch 46 = .ok (.ireturn, 1) := by decide +kernel
theorem dX10_patchNow_0 : decode cX10_patchNow 0 = .ok (.aload_n 0, 1) := by decide +kernel
theorem dX10_patchNow_1 : decode cX10_patchNow 1 = .ok (.getfield 7, 3) := by decide +kernel
theorem dX10_patchNow_4 : decode cX10_patchNow 4 = .ok (.bipush 11, 2) := by decide +kernel
theorem dX10_patchNow_6 : decode cX10_patchNow 6 = .ok (.iload_n 1, 1) := by decide +kernel
theorem dX10_patchNow_7 : decode cX10_patchNow 7 = .ok (.iadd, 1) := by decide +kernel
theorem dX10_patchNow_8 : decode cX10_patchNow 8 = .ok (.dup2, 1) := by decide +kernel
theorem dX10_patchNow_9 : decode cX10_patchNow 9 = .ok (.iaload, 1) := by decide +kernel
theorem dX10_patchNow_10 : decode cX10_patchNow 10 = .ok (.iload_n 2, 1) := by decide +kernel
theorem dX10_patchNow_11 : decode cX10_patchNow 11 = .ok (.iadd, 1) := by decide +kernel
theorem dX10_patchNow_12 : decode cX10_patchNow 12 = .ok (.iastore, 1) := by decide +kernel
theorem dX10_patchNow_13 : decode cX10_patchNow 13 = .ok (.aload_n 0, 1) := by decide +kernel
theorem dX10_patchNow_14 : decode cX10_patchNow 14 = .ok (.getfield 7, 3) := by decide +kernel
theorem dX10_patchNow_17 : decode cX10_patchNow 17 = .ok (.bipush 8, 2) := by decide +kernel
theorem dX10_patchNow_19 : decode cX10_patchNow 19 = .ok (.dup2, 1) := by decide +kernel
theorem dX10_patchNow_20 : decode cX10_patchNow 20 = .ok (.iaload, 1) := by decide +kernel
theorem dX10_patchNow_21 : decode cX10_patchNow 21 = .ok (.iload_n 2, 1) := by decide +kernel
theorem dX10_patchNow_22 : decode cX10_patchNow 22 = .ok (.isub, 1) := by decide +kernel
theorem dX10_patchNow_23 : decode cX10_patchNow 23 = .ok (.iastore, 1) := by decide +kernel
theorem dX10_patchNow_24 : decode cX10_patchNow 24 = .ok (.aload_n 0, 1) := by decide +kernel
theorem dX10_patchNow_25 : decode cX10_patchNow 25 = .ok (.getfield 7, 3) := by decide +kernel
theorem dX10_patchNow_28 : decode cX10_patchNow 28 = .ok (.bipush 23, 2) := by decide +kernel
theorem dX10_patchNow_30 : decode cX10_patchNow 30 = .ok (.iload_n 1, 1) := by decide +kernel
theorem dX10_patchNow_31 : decode cX10_patchNow 31 = .ok (.iadd, 1) := by decide +kernel
theorem dX10_patchNow_32 : decode cX10_patchNow 32 = .ok (.iconst 0, 1) := by decide +kernel
theorem dX10_patchNow_33 : decode cX10_patchNow 33 = .ok (.iastore, 1) := by decide +kernel
theorem dX10_patchNow_34 : decode cX10_patchNow 34 = .ok (.return_, 1) := by decide +kernel
theorem dX10_patch_0 : decode cX10_patch 0 = .ok (.aload_n 0, 1) := by decide +kernel
theorem dX10_patch_1 : decode cX10_patch 1 = .ok (.iload_n 1, 1) := by decide +kernel
theorem dX10_patch_2 : decode cX10_patch 2 = .ok (.iload_n 2, 1) := by decide +kernel
theorem dX10_patch_3 : decode cX10_patch 3 = .ok (.invokevirtual 323, 3) := by decide +kernel
theorem dX10_patch_6 : decode cX10_patch 6 = .ok (.ifCond .ne 5, 3) := by decide +kernel
theorem dX10_patch_9 : decode cX10_patch 9 = .ok (.iconst 0, 1) := by decide +kernel
theorem dX10_patch_10 : decode cX10_patch 10 = .ok (.ireturn, 1) := by decide +kernel
theorem dX10_patch_11 : decode cX10_patch 11 = .ok (.aload_n 0, 1) := by decide +kernel
theorem dX10_patch_12 : decode cX10_patch 12 = .ok (.invokevirtual 317, 3) := by decide +kernel
theorem dX10_patch_15 : decode cX10_patch 15 = .ok (.aload_n 0, 1) := by decide +kernel
theorem dX10_patch_16 : decode cX10_patch 16 = .ok (.iload_n 1, 1) := by decide +kernel
theorem dX10_patch_17 : decode cX10_patch 17 = .ok (.iload_n 2, 1) := by decide +kernel
theorem dX10_patch_18 : decode cX10_patch 18 = .ok (.invokevirtual 326, 3) := by decide +kernel
theorem dX10_patch_21 : decode cX10_patch 21 = .ok (.iconst 1, 1) := by decide +kernel
theorem dX10_patch_22 : decode cX10_patch 22 = .ok (.ireturn, 1) := by decide +kernel
theorem dX10_arePassed_0 : decode cX10_arePassed 0 = .ok (.aload_n 0, 1) := by decide +kernel
theorem dX10_arePassed_1 : decode cX10_arePassed 1 = .ok (.iconst 0, 1) := by decide +kernel
theorem dX10_arePassed_2 : decode cX10_arePassed 2 = .ok (.putfield 297, 3) := by decide +kernel
theorem dX10_arePassed_5 : decode cX10_arePassed 5 = .ok (.iconst 0, 1) := by decide +kernel
theorem dX10_arePassed_6 : decode cX10_arePassed 6 = .ok (.istore_n 2, 1) := by decide +kernel
theorem dX10_arePassed_7 : decode cX10_arePassed 7 = .ok (.iload_n 2, 1) := by decide +kernel
theorem dX10_arePassed_8 : decode cX10_arePassed 8 = .ok (.iload_n 1, 1) := by decide +kernel
theorem dX10_arePassed_9 : decode cX10_arePassed 9 = .ok (.if_icmp .ge 32, 3) := by decide +kernel
theorem dX10_arePassed_12 : decode cX10_arePassed 12 = .ok (.aload_n 0, 1) := by decide +kernel
theorem dX10_arePassed_13 : decode cX10_arePassed 13 = .ok (.getfield 7, 3) := by decide +kernel
theorem dX10_arePassed_16 : decode cX10_arePassed 16 = .ok (.bipush 6, 2) := by decide +kernel
theorem dX10_arePassed_18 : decode cX10_arePassed 18 = .ok (.iaload, 1) := by decide +kernel
theorem dX10_arePassed_19 : decode cX10_arePassed 19 = .ok (.sipush 9999, 3) := by decide +kernel
theorem dX10_arePassed_22 : decode cX10_arePassed 22 = .ok (.if_icmp .ne 5, 3) := by decide +kernel
theorem dX10_arePassed_25 : decode cX10_arePassed 25 = .ok (.iconst 0, 1) := by decide +kernel
theorem dX10_arePassed_26 : decode cX10_arePassed 26 = .ok (.ireturn, 1) := by decide +kernel
theorem dX10_arePassed_27 : decode cX10_arePassed 27 = .ok (.aload_n 0, 1) := by decide +kernel
theorem dX10_arePassed_28 : decode cX10_arePassed 28 = .ok (.invokevirtual 317, 3) := by decide +kernel
theorem dX10_arePassed_31 : decode cX10_arePassed 31 = .ok (.aload_n 0, 1) := by decide +kernel
theorem dX10_arePassed_32 : decode cX10_arePassed 32 = .ok (.invokevirtual 329, 3) := by decide +kernel
theorem dX10_arePassed_35 : decode cX10_arePassed 35 = .ok (.iinc 2 1, 3) := by decide +kernel
theorem dX10_arePassed_38 : decode cX10_arePassed 38 = .ok (.goto (-31), 3) := by decide +kernel
theorem dX10_arePassed_41 : decode cX10_arePassed 41 = .ok (.iconst 1, 1) := by decide +kernel
theorem dX10_arePassed_42 : decode cX10_arePassed 42 = .ok (.ireturn, 1) := by decide +kernel
theorem dX10_roll_0 : decode cX10_roll 0 = .ok (.iload_n 1, 1) := by decide +kernel
theorem dX10_roll_1 : decode cX10_roll 1 = .ok (.iconst 1, 1) := by decide +kernel
theorem dX10_roll_2 : decode cX10_roll 2 = .ok (.bipush 60, 2) := by decide +kernel
theorem dX10_roll_4 : decode cX10_roll 4 = .ok (.invokestatic 63, 3) := by decide +kernel
theorem dX10_roll_7 : decode cX10_roll 7 = .ok (.ifCond .eq 33, 3) := by decide +kernel
theorem dX10_roll_10 : decode cX10_roll 10 = .ok (.aload_n 0, 1) := by decide +kernel
theorem dX10_roll_11 : decode cX10_roll 11 = .ok (.getfield 7, 3) := by decide +kernel
theorem dX10_roll_14 : decode cX10_roll 14 = .ok (.bipush 6, 2) := by decide +kernel
theorem dX10_roll_16 : decode cX10_roll 16 = .ok (.iaload, 1) := by decide +kernel
theorem dX10_roll_17 : decode cX10_roll 17 = .ok (.iload_n 1, 1) := by decide +kernel
theorem dX10_roll_18 : decode cX10_roll 18 = .ok (.iadd, 1) := by decide +kernel
theorem dX10_roll_19 : decode cX10_roll 19 = .ok (.sipush 9999, 3) := by decide +kernel
theorem dX10_roll_22 : decode cX10_roll 22 = .ok (.if_icmp .gt 18, 3) := by decide +kernel
theorem dX10_roll_25 : decode cX10_roll 25 = .ok (.aload_n 0, 1) := by decide +kernel
theorem dX10_roll_26 : decode cX10_roll 26 = .ok (.iload_n 1, 1) := by decide +kernel
theorem dX10_roll_27 : decode cX10_roll 27 = .ok (.invokevirtual 332, 3) := by decide +kernel
theorem dX10_roll_30 : decode cX10_roll 30 = .ok (.ifCond .eq 10, 3) := by decide +kernel
theorem dX10_roll_33 : decode cX10_roll 33 = .ok (.aload_n 0, 1) := by decide +kernel
theorem dX10_roll_34 : decode cX10_roll 34 = .ok (.getfield 297, 3) := by decide +kernel
theorem dX10_roll_37 : decode cX10_roll 37 = .ok (.goto 4, 3) := by decide +kernel
theorem dX10_roll_40 : decode cX10_roll 40 = .ok (.iconst (-1), 1) := by decide +kernel
theorem dX10_roll_41 : decode cX10_roll 41 = .ok (.ireturn, 1) := by decide +kernel
theorem dX10_isPlayed_0 : decode cX10_isPlayed 0 = .ok (.aload_n 0, 1) := by decide +kernel
theorem dX10_isPlayed_1 : decode cX10_isPlayed 1 = .ok (.getfield 16, 3) := by decide +kernel
theorem dX10_isPlayed_4 : decode cX10_isPlayed 4 = .ok (.iload_n 1, 1) := by decide +kernel
theorem dX10_isPlayed_5 : decode cX10_isPlayed 5 = .ok (.iconst 1, 1) := by decide +kernel
theorem dX10_isPlayed_6 : decode cX10_isPlayed 6 = .ok (.iadd, 1) := by decide +kernel
theorem dX10_isPlayed_7 : decode cX10_isPlayed 7 = .ok (.iaload, 1) := by decide +kernel
theorem dX10_isPlayed_8 : decode cX10_isPlayed 8 = .ok (.istore_n 2, 1) := by decide +kernel
theorem dX10_isPlayed_9 : decode cX10_isPlayed 9 = .ok (.aload_n 0, 1) := by decide +kernel
theorem dX10_isPlayed_10 : decode cX10_isPlayed 10 = .ok (.getfield 16, 3) := by decide +kernel
theorem dX10_isPlayed_13 : decode cX10_isPlayed 13 = .ok (.iload_n 1, 1) := by decide +kernel
theorem dX10_isPlayed_14 : decode cX10_isPlayed 14 = .ok (.iconst 2, 1) := by decide +kernel
theorem dX10_isPlayed_15 : decode cX10_isPlayed 15 = .ok (.iadd, 1) := by decide +kernel
theorem dX10_isPlayed_16 : decode cX10_isPlayed 16 = .ok (.iaload, 1) := by decide +kernel
theorem dX10_isPlayed_17 : decode cX10_isPlayed 17 = .ok (.istore_n 3, 1) := by decide +kernel
theorem dX10_isPlayed_18 : decode cX10_isPlayed 18 = .ok (.aload_n 0, 1) := by decide +kernel
theorem dX10_isPlayed_19 : decode cX10_isPlayed 19 = .ok (.getfield 16, 3) := by decide +kernel
theorem dX10_isPlayed_22 : decode cX10_isPlayed 22 = .ok (.iload_n 1, 1) := by decide +kernel
theorem dX10_isPlayed_23 : decode cX10_isPlayed 23 = .ok (.iaload, 1) := by decide +kernel
theorem dX10_isPlayed_24 : decode cX10_isPlayed 24 = .ok (.tableswitch 141 2 9 #[48, 62, 69, 83, 99, 115, 128, 135], 48) := by decide +kernel
theorem dX10_isPlayed_72 : decode cX10_isPlayed 72 = .ok (.aload_n 0, 1) := by decide +kernel
theorem dX10_isPlayed_73 : decode cX10_isPlayed 73 = .ok (.iload_n 2, 1) := by decide +kernel
theorem dX10_isPlayed_74 : decode cX10_isPlayed 74 = .ok (.invokevirtual 335, 3) := by decide +kernel
theorem dX10_isPlayed_77 : decode cX10_isPlayed 77 = .ok (.ifCond .lt 7, 3) := by decide +kernel
theorem dX10_isPlayed_80 : decode cX10_isPlayed 80 = .ok (.iconst 1, 1) := by decide +kernel
theorem dX10_isPlayed_81 : decode cX10_isPlayed 81 = .ok (.goto 4, 3) := by decide +kernel
theorem dX10_isPlayed_84 : decode cX10_isPlayed 84 = .ok (.iconst 0, 1) := by decide +kernel
theorem dX10_isPlayed_85 : decode cX10_isPlayed 85 = .ok (.ireturn, 1) := by decide +kernel
theorem dX10_isPlayed_86 : decode cX10_isPlayed 86 = .ok (.aload_n 0, 1) := by decide +kernel
theorem dX10_isPlayed_87 : decode cX10_isPlayed 87 = .ok (.iload_n 3, 1) := by decide +kernel
theorem dX10_isPlayed_88 : decode cX10_isPlayed 88 = .ok (.iload_n 2, 1) := by decide +kernel
theorem dX10_isPlayed_89 : decode cX10_isPlayed 89 = .ok (.invokevirtual 338, 3) := by decide +kernel
theorem dX10_isPlayed_92 : decode cX10_isPlayed 92 = .ok (.ireturn, 1) := by decide +kernel
theorem dX10_isPlayed_93 : decode cX10_isPlayed 93 = .ok (.aload_n 0, 1) := by decide +kernel
theorem dX10_isPlayed_94 : decode cX10_isPlayed 94 = .ok (.iload_n 2, 1) := by decide +kernel
theorem dX10_isPlayed_95 : decode cX10_isPlayed 95 = .ok (.invokevirtual 341, 3) := by decide +kernel
theorem dX10_isPlayed_98 : decode cX10_isPlayed 98 = .ok (.ifCond .lt 7, 3) := by decide +kernel
theorem dX10_isPlayed_101 : decode cX10_isPlayed 101 = .ok (.iconst 1, 1) := by decide +kernel
theorem dX10_isPlayed_102 : decode cX10_isPlayed 102 = .ok (.goto 4, 3) := by decide +kernel
theorem dX10_isPlayed_105 : decode cX10_isPlayed 105 = .ok (.iconst 0, 1) := by decide +kernel
theorem dX10_isPlayed_106 : decode cX10_isPlayed 106 = .ok (.ireturn, 1) := by decide +kernel
theorem dX10_isPlayed_107 : decode cX10_isPlayed 107 = .ok (.aload_n 0, 1) := by decide +kernel
theorem dX10_isPlayed_108 : decode cX10_isPlayed 108 = .ok (.iload_n 3, 1) := by decide +kernel
theorem dX10_isPlayed_109 : decode cX10_isPlayed 109 = .ok (.iload_n 2, 1) := by decide +kernel
theorem dX10_isPlayed_110 : decode cX10_isPlayed 110 = .ok (.iconst 0, 1) := by decide +kernel
theorem dX10_isPlayed_111 : decode cX10_isPlayed 111 = .ok (.invokevirtual 344, 3) := by decide +kernel
theorem dX10_isPlayed_114 : decode cX10_isPlayed 114 = .ok (.ifCond .lt 7, 3) := by decide +kernel
theorem dX10_isPlayed_117 : decode cX10_isPlayed 117 = .ok (.iconst 1, 1) := by decide +kernel
theorem dX10_isPlayed_118 : decode cX10_isPlayed 118 = .ok (.goto 4, 3) := by decide +kernel
theorem dX10_isPlayed_121 : decode cX10_isPlayed 121 = .ok (.iconst 0, 1) := by decide +kernel
theorem dX10_isPlayed_122 : decode cX10_isPlayed 122 = .ok (.ireturn, 1) := by decide +kernel
theorem dX10_isPlayed_123 : decode cX10_isPlayed 123 = .ok (.aload_n 0, 1) := by decide +kernel
theorem dX10_isPlayed_124 : decode cX10_isPlayed 124 = .ok (.iload_n 3, 1) := by decide +kernel
theorem dX10_isPlayed_125 : decode cX10_isPlayed 125 = .ok (.iload_n 2, 1) := by decide +kernel
theorem dX10_isPlayed_126 : decode cX10_isPlayed 126 = .ok (.iconst 1, 1) := by decide +kernel
theorem dX10_isPlayed_127 : decode cX10_isPlayed 127 = .ok (.invokevirtual 344, 3) := by decide +kernel
theorem dX10_isPlayed_130 : decode cX10_isPlayed 130 = .ok (.ifCond .lt 7, 3) := by decide +kernel
theorem dX10_isPlayed_133 : decode cX10_isPlayed 133 = .ok (.iconst 1, 1) := by decide +kernel
theorem dX10_isPlayed_134 : decode cX10_isPlayed 134 = .ok (.goto 4, 3) := by decide +kernel
theorem dX10_isPlayed_137 : decode cX10_isPlayed 137 = .ok (.iconst 0, 1) := by decide +kernel
theorem dX10_isPlayed_138 : decode cX10_isPlayed 138 = .ok (.ireturn, 1) := by decide +kernel
theorem dX10_isPlayed_139 : decode cX10_isPlayed 139 = .ok (.aload_n 0, 1) := by decide +kernel
theorem dX10_isPlayed_140 : decode cX10_isPlayed 140 = .ok (.invokevirtual 347, 3) := by decide +kernel
theorem dX10_isPlayed_143 : decode cX10_isPlayed 143 = .ok (.ifCond .lt 7, 3) := by decide +kernel
theorem dX10_isPlayed_146 : decode cX10_isPlayed 146 = .ok (.iconst 1, 1) := by decide +kernel
theorem dX10_isPlayed_147 : decode cX10_isPlayed 147 = .ok (.goto 4, 3) := by decide +kernel
theorem dX10_isPlayed_150 : decode cX10_isPlayed 150 = .ok (.iconst 0, 1) := by decide +kernel
theorem dX10_isPlayed_151 : decode cX10_isPlayed 151 = .ok (.ireturn, 1) := by decide +kernel
theorem dX10_isPlayed_152 : decode cX10_isPlayed 152 = .ok (.aload_n 0, 1) := by decide +kernel
theorem dX10_isPlayed_153 : decode cX10_isPlayed 153 = .ok (.iload_n 3, 1) := by decide +kernel
theorem dX10_isPlayed_154 : decode cX10_isPlayed 154 = .ok (.iload_n 2, 1) := by decide +kernel
theorem dX10_isPlayed_155 : decode cX10_isPlayed 155 = .ok (.invokevirtual 350, 3) := by decide +kernel
theorem dX10_isPlayed_158 : decode cX10_isPlayed 158 = .ok (.ireturn, 1) := by decide +kernel
theorem dX10_isPlayed_159 : decode cX10_isPlayed 159 = .ok (.aload_n 0, 1) := by decide +kernel
theorem dX10_isPlayed_160 : decode cX10_isPlayed 160 = .ok (.iload_n 2, 1) := by decide +kernel
theorem dX10_isPlayed_161 : decode cX10_isPlayed 161 = .ok (.invokevirtual 332, 3) := by decide +kernel
theorem dX10_isPlayed_164 : decode cX10_isPlayed 164 = .ok (.ireturn, 1) := by decide +kernel
theorem dX10_isPlayed_165 : decode cX10_isPlayed 165 = .ok (.iconst 1, 1) := by decide +kernel
theorem dX10_isPlayed_166 : decode cX10_isPlayed 166 = .ok (.ireturn, 1) := by decide +kernel
theorem dX10_played_0 : decode cX10_played 0 = .ok (.iload_n 1, 1) := by decide +kernel
theorem dX10_played_1 : decode cX10_played 1 = .ok (.iconst 0, 1) := by decide +kernel
theorem dX10_played_2 : decode cX10_played 2 = .ok (.aload_n 0, 1) := by decide +kernel
theorem dX10_played_3 : decode cX10_played 3 = .ok (.getfield 7, 3) := by decide +kernel
theorem dX10_played_6 : decode cX10_played 6 = .ok (.iconst 2, 1) := by decide +kernel
theorem dX10_played_7 : decode cX10_played 7 = .ok (.iaload, 1) := by decide +kernel
theorem dX10_played_8 : decode cX10_played 8 = .ok (.iconst 1, 1) := by decide +kernel
theorem dX10_played_9 : decode cX10_played 9 = .ok (.isub, 1) := by decide +kernel
theorem dX10_played_10 : decode cX10_played 10 = .ok (.invokestatic 63, 3) := by decide +kernel
theorem dX10_played_13 : decode cX10_played 13 = .ok (.ifCond .ne 6, 3) := by decide +kernel
theorem dX10_played_16 : decode cX10_played 16 = .ok (.bipush (-2), 2) := by decide +kernel
theorem dX10_played_18 : decode cX10_played 18 = .ok (.ireturn, 1) := by decide +kernel
theorem dX10_played_19 : decode cX10_played 19 = .ok (.iconst 0, 1) := by decide +kernel
theorem dX10_played_20 : decode cX10_played 20 = .ok (.istore_n 2, 1) := by decide +kernel
theorem dX10_played_21 : decode cX10_played 21 = .ok (.iload_n 2, 1) := by decide +kernel
theorem dX10_played_22 : decode cX10_played 22 = .ok (.aload_n 0, 1) := by decide +kernel
theorem dX10_played_23 : decode cX10_played 23 = .ok (.getfield 16, 3) := by decide +kernel
theorem dX10_played_26 : decode cX10_played 26 = .ok (.sipush 681, 3) := by decide +kernel
theorem dX10_played_29 : decode cX10_played 29 = .ok (.iload_n 1, 1) := by decide +kernel
theorem dX10_played_30 : decode cX10_played 30 = .ok (.imul, 1) := by decide +kernel
theorem dX10_played_31 : decode cX10_played 31 = .ok (.iaload, 1) := by decide +kernel
theorem dX10_played_32 : decode cX10_played 32 = .ok (.if_icmp .ge 29, 3) := by decide +kernel
theorem dX10_played_35 : decode cX10_played 35 = .ok (.aload_n 0, 1) := by decide +kernel
theorem dX10_played_36 : decode cX10_played 36 = .ok (.sipush 681, 3) := by decide +kernel
theorem dX10_played_39 : decode cX10_played 39 = .ok (.iload_n 1, 1) := by decide +kernel
theorem dX10_played_40 : decode cX10_played 40 = .ok (.imul, 1) := by decide +kernel
theorem dX10_played_41 : decode cX10_played 41 = .ok (.iconst 1, 1) := by decide +kernel
theorem dX10_played_42 : decode cX10_played 42 = .ok (.iadd, 1) := by decide +kernel
theorem dX10_played_43 : decode cX10_played 43 = .ok (.iconst 3, 1) := by decide +kernel
theorem dX10_played_44 : decode cX10_played 44 = .ok (.iload_n 2, 1) := by decide +kernel
theorem dX10_played_45 : decode cX10_played 45 = .ok (.imul, 1) := by decide +kernel
theorem dX10_played_46 : decode cX10_played 46 = .ok (.iadd, 1) := by decide +kernel
theorem dX10_played_47 : decode cX10_played 47 = .ok (.invokevirtual 353, 3) := by decide +kernel
theorem dX10_played_50 : decode cX10_played 50 = .ok (.ifCond .ne 5, 3) := by decide +kernel
theorem dX10_played_53 : decode cX10_played 53 = .ok (.iload_n 2, 1) := by decide +kernel
theorem dX10_played_54 : decode cX10_played 54 = .ok (.ireturn, 1) := by decide +kernel
theorem dX10_played_55 : decode cX10_played 55 = .ok (.iinc 2 1, 3) := by decide +kernel
theorem dX10_played_58 : decode cX10_played 58 = .ok (.goto (-37), 3) := by decide +kernel
theorem dX10_played_61 : decode cX10_played 61 = .ok (.iconst (-1), 1) := by decide +kernel
theorem dX10_played_62 : decode cX10_played 62 = .ok (.ireturn, 1) := by decide +kernel
theorem dX10_happens_0 : decode cX10_happens 0 = .ok (.iload_n 1, 1) := by decide +kernel
theorem dX10_happens_1 : decode cX10_happens 1 = .ok (.bipush 6, 2) := by decide +kernel
theorem dX10_happens_3 : decode cX10_happens 3 = .ok (.idiv, 1) := by decide +kernel
theorem dX10_happens_4 : decode cX10_happens 4 = .ok (.bipush 12, 2) := by decide +kernel
theorem dX10_happens_6 : decode cX10_happens 6 = .ok (.irem, 1) := by decide +kernel
theorem dX10_happens_7 : decode cX10_happens 7 = .ok (.istore_n 2, 1) := by decide +kernel
theorem dX10_happens_8 : decode cX10_happens 8 = .ok (.iload_n 1, 1) := by decide +kernel
theorem dX10_happens_9 : decode cX10_happens 9 = .ok (.bipush 6, 2) := by decide +kernel
theorem dX10_happens_11 : decode cX10_happens 11 = .ok (.irem, 1) := by decide +kernel
theorem dX10_happens_12 : decode cX10_happens 12 = .ok (.tableswitch 117 0 3 #[32, 32, 82, 89], 32) := by decide +kernel
theorem dX10_happens_44 : decode cX10_happens 44 = .ok (.aload_n 0, 1) := by decide +kernel
theorem dX10_happens_45 : decode cX10_happens 45 = .ok (.getfield 7, 3) := by decide +kernel
theorem dX10_happens_48 : decode cX10_happens 48 = .ok (.iconst 0, 1) := by decide +kernel
theorem dX10_happens_49 : decode cX10_happens 49 = .ok (.iaload, 1) := by decide +kernel
theorem dX10_happens_50 : decode cX10_happens 50 = .ok (.ifCond .le 96, 3) := by decide +kernel
theorem dX10_happens_53 : decode cX10_happens 53 = .ok (.aload_n 0, 1) := by decide +kernel
theorem dX10_happens_54 : decode cX10_happens 54 = .ok (.getfield 7, 3) := by decide +kernel
theorem dX10_happens_57 : decode cX10_happens 57 = .ok (.bipush 11, 2) := by decide +kernel
theorem dX10_happens_59 : decode cX10_happens 59 = .ok (.iload_n 2, 1) := by decide +kernel
theorem dX10_happens_60 : decode cX10_happens 60 = .ok (.iadd, 1) := by decide +kernel
theorem dX10_happens_61 : decode cX10_happens 61 = .ok (.iaload, 1) := by decide +kernel
theorem dX10_happens_62 : decode cX10_happens 62 = .ok (.ifCond .le 84, 3) := by decide +kernel
theorem dX10_happens_65 : decode cX10_happens 65 = .ok (.aload_n 0, 1) := by decide +kernel
theorem dX10_happens_66 : decode cX10_happens 66 = .ok (.iload_n 1, 1) := by decide +kernel
theorem dX10_happens_67 : decode cX10_happens 67 = .ok (.aload_n 0, 1) := by decide +kernel
theorem dX10_happens_68 : decode cX10_happens 68 = .ok (.getfield 7, 3) := by decide +kernel
theorem dX10_happens_71 : decode cX10_happens 71 = .ok (.iconst 0, 1) := by decide +kernel
theorem dX10_happens_72 : decode cX10_happens 72 = .ok (.iaload, 1) := by decide +kernel
theorem dX10_happens_73 : decode cX10_happens 73 = .ok (.irem, 1) := by decide +kernel
theorem dX10_happens_74 : decode cX10_happens 74 = .ok (.iload_n 2, 1) := by decide +kernel
theorem dX10_happens_75 : decode cX10_happens 75 = .ok (.iload_n 1, 1) := by decide +kernel
theorem dX10_happens_76 : decode cX10_happens 76 = .ok (.iconst 4, 1) := by decide +kernel
theorem dX10_happens_77 : decode cX10_happens 77 = .ok (.irem, 1) := by decide +kernel
theorem dX10_happens_78 : decode cX10_happens 78 = .ok (.iconst 1, 1) := by decide +kernel
theorem dX10_happens_79 : decode cX10_happens 79 = .ok (.if_icmp .le 7, 3) := by decide +kernel
theorem dX10_happens_82 : decode cX10_happens 82 = .ok (.iconst 1, 1) := by decide +kernel
theorem dX10_happens_83 : decode cX10_happens 83 = .ok (.goto 4, 3) := by decide +kernel
theorem dX10_happens_86 : decode cX10_happens 86 = .ok (.iconst 0, 1) := by decide +kernel
theorem dX10_happens_87 : decode cX10_happens 87 = .ok (.invokevirtual 307, 3) := by decide +kernel
theorem dX10_happens_90 : decode cX10_happens 90 = .ok (.pop, 1) := by decide +kernel
theorem dX10_happens_91 : decode cX10_happens 91 = .ok (.goto 55, 3) := by decide +kernel
theorem dX10_happens_94 : decode cX10_happens 94 = .ok (.aload_n 0, 1) := by decide +kernel
theorem dX10_happens_95 : decode cX10_happens 95 = .ok (.invokevirtual 320, 3) := by decide +kernel
theorem dX10_happens_98 : decode cX10_happens 98 = .ok (.goto 48, 3) := by decide +kernel
theorem dX10_happens_101 : decode cX10_happens 101 = .ok (.aload_n 0, 1) := by decide +kernel
theorem dX10_happens_102 : decode cX10_happens 102 = .ok (.iload_n 2, 1) := by decide +kernel
theorem dX10_happens_103 : decode cX10_happens 103 = .ok (.iconst 1, 1) := by decide +kernel
theorem dX10_happens_104 : decode cX10_happens 104 = .ok (.iload_n 1, 1) := by decide +kernel
theorem dX10_happens_105 : decode cX10_happens 105 = .ok (.bipush 9, 2) := by decide +kernel
theorem dX10_happens_107 : decode cX10_happens 107 = .ok (.irem, 1) := by decide +kernel
theorem dX10_happens_108 : decode cX10_happens 108 = .ok (.iadd, 1) := by decide +kernel
theorem dX10_happens_109 : decode cX10_happens 109 = .ok (.invokevirtual 323, 3) := by decide +kernel
theorem dX10_happens_112 : decode cX10_happens 112 = .ok (.ifCond .eq 34, 3) := by decide +kernel
theorem dX10_happens_115 : decode cX10_happens 115 = .ok (.aload_n 0, 1) := by decide +kernel
theorem dX10_happens_116 : decode cX10_happens 116 = .ok (.iload_n 2, 1) := by decide +kernel
theorem dX10_happens_117 : decode cX10_happens 117 = .ok (.iconst 1, 1) := by decide +kernel
theorem dX10_happens_118 : decode cX10_happens 118 = .ok (.iload_n 1, 1) := by decide +kernel
theorem dX10_happens_119 : decode cX10_happens 119 = .ok (.bipush 9, 2) := by decide +kernel
theorem dX10_happens_121 : decode cX10_happens 121 = .ok (.irem, 1) := by decide +kernel
theorem dX10_happens_122 : decode cX10_happens 122 = .ok (.iadd, 1) := by decide +kernel
theorem dX10_happens_123 : decode cX10_happens 123 = .ok (.invokevirtual 326, 3) := by decide +kernel
theorem dX10_happens_126 : decode cX10_happens 126 = .ok (.goto 20, 3) := by decide +kernel
theorem dX10_happens_129 : decode cX10_happens 129 = .ok (.aload_n 0, 1) := by decide +kernel
theorem dX10_happens_130 : decode cX10_happens 130 = .ok (.getfield 7, 3) := by decide +kernel
theorem dX10_happens_133 : decode cX10_happens 133 = .ok (.bipush 6, 2) := by decide +kernel
theorem dX10_happens_135 : decode cX10_happens 135 = .ok (.iaload, 1) := by decide +kernel
theorem dX10_happens_136 : decode cX10_happens 136 = .ok (.sipush 9999, 3) := by decide +kernel
theorem dX10_happens_139 : decode cX10_happens 139 = .ok (.if_icmp .ge 7, 3) := by decide +kernel
theorem dX10_happens_142 : decode cX10_happens 142 = .ok (.aload_n 0, 1) := by decide +kernel
theorem dX10_happens_143 : decode cX10_happens 143 = .ok (.invokevirtual 329, 3) := by decide +kernel
theorem dX10_happens_146 : decode cX10_happens 146 = .ok (.return_, 1) := by decide +kernel
theorem dX10_years_0 : decode cX10_years 0 = .ok (.iload_n 1, 1) := by decide +kernel
theorem dX10_years_1 : decode cX10_years 1 = .ok (.iconst 0, 1) := by decide +kernel
theorem dX10_years_2 : decode cX10_years 2 = .ok (.sipush 9999, 3) := by decide +kernel
theorem dX10_years_5 : decode cX10_years 5 = .ok (.invokestatic 63, 3) := by decide +kernel
theorem dX10_years_8 : decode cX10_years 8 = .ok (.ifCond .eq 13, 3) := by decide +kernel
theorem dX10_years_11 : decode cX10_years 11 = .ok (.iload_n 2, 1) := by decide +kernel
theorem dX10_years_12 : decode cX10_years 12 = .ok (.iconst 1, 1) := by decide +kernel
theorem dX10_years_13 : decode cX10_years 13 = .ok (.bipush 40, 2) := by decide +kernel
theorem dX10_years_15 : decode cX10_years 15 = .ok (.invokestatic 63, 3) := by decide +kernel
theorem dX10_years_18 : decode cX10_years 18 = .ok (.ifCond .ne 5, 3) := by decide +kernel
theorem dX10_years_21 : decode cX10_years 21 = .ok (.iconst (-1), 1) := by decide +kernel
theorem dX10_years_22 : decode cX10_years 22 = .ok (.ireturn, 1) := by decide +kernel
theorem dX10_years_23 : decode cX10_years 23 = .ok (.aload_n 0, 1) := by decide +kernel
theorem dX10_years_24 : decode cX10_years 24 = .ok (.invokevirtual 317, 3) := by decide +kernel
theorem dX10_years_27 : decode cX10_years 27 = .ok (.aload_n 0, 1) := by decide +kernel
theorem dX10_years_28 : decode cX10_years 28 = .ok (.getfield 7, 3) := by decide +kernel
theorem dX10_years_31 : decode cX10_years 31 = .ok (.bipush 7, 2) := by decide +kernel
theorem dX10_years_33 : decode cX10_years 33 = .ok (.iload_n 1, 1) := by decide +kernel
theorem dX10_years_34 : decode cX10_years 34 = .ok (.iconst 2, 1) := by decide +kernel
theorem dX10_years_35 : decode cX10_years 35 = .ok (.imul, 1) := by decide +kernel
theorem dX10_years_36 : decode cX10_years 36 = .ok (.sipush 281, 3) := by decide +kernel
theorem dX10_years_39 : decode cX10_years 39 = .ok (.iadd, 1) := by decide +kernel
theorem dX10_years_40 : decode cX10_years 40 = .ok (.iastore, 1) := by decide +kernel
theorem dX10_years_41 : decode cX10_years 41 = .ok (.iconst 0, 1) := by decide +kernel
theorem dX10_years_42 : decode cX10_years 42 = .ok (.istore_n 3, 1) := by decide +kernel
theorem dX10_years_43 : decode cX10_years 43 = .ok (.iload_n 3, 1) := by decide +kernel
theorem dX10_years_44 : decode cX10_years 44 = .ok (.iload_n 2, 1) := by decide +kernel
theorem dX10_years_45 : decode cX10_years 45 = .ok (.if_icmp .ge 32, 3) := by decide +kernel
theorem dX10_years_48 : decode cX10_years 48 = .ok (.aload_n 0, 1) := by decide +kernel
theorem dX10_years_49 : decode cX10_years 49 = .ok (.getfield 7, 3) := by decide +kernel
theorem dX10_years_52 : decode cX10_years 52 = .ok (.bipush 7, 2) := by decide +kernel
theorem dX10_years_54 : decode cX10_years 54 = .ok (.iaload, 1) := by decide +kernel
theorem dX10_years_55 : decode cX10_years 55 = .ok (.istore 4, 2) := by decide +kernel
theorem dX10_years_57 : decode cX10_years 57 = .ok (.aload_n 0, 1) := by decide +kernel
theorem dX10_years_58 : decode cX10_years 58 = .ok (.iconst 1, 1) := by decide +kernel
theorem dX10_years_59 : decode cX10_years 59 = .ok (.invokevirtual 304, 3) := by decide +kernel
theorem dX10_years_62 : decode cX10_years 62 = .ok (.ifCond .ne 9, 3) := by decide +kernel
theorem dX10_years_65 : decode cX10_years 65 = .ok (.aload_n 0, 1) := by decide +kernel
theorem dX10_years_66 : decode cX10_years 66 = .ok (.iload 4, 2) := by decide +kernel
theorem dX10_years_68 : decode cX10_years 68 = .ok (.invokevirtual 356, 3) := by decide +kernel
theorem dX10_years_71 : decode cX10_years 71 = .ok (.iinc 3 1, 3) := by decide +kernel
theorem dX10_years_74 : decode cX10_years 74 = .ok (.goto (-31), 3) := by decide +kernel
theorem dX10_years_77 : decode cX10_years 77 = .ok (.aload_n 0, 1) := by decide +kernel
theorem dX10_years_78 : decode cX10_years 78 = .ok (.getfield 7, 3) := by decide +kernel
theorem dX10_years_81 : decode cX10_years 81 = .ok (.bipush 6, 2) := by decide +kernel
theorem dX10_years_83 : decode cX10_years 83 = .ok (.iaload, 1) := by decide +kernel
theorem dX10_years_84 : decode cX10_years 84 = .ok (.ireturn, 1) := by decide +kernel
theorem dX10_of_0 : decode cX10_of 0 = .ok (.iload_n 1, 1) := by decide +kernel
theorem dX10_of_1 : decode cX10_of 1 = .ok (.invokestatic 67, 3) := by decide +kernel
theorem dX10_of_4 : decode cX10_of 4 = .ok (.ifCond .ne 5, 3) := by decide +kernel
theorem dX10_of_7 : decode cX10_of 7 = .ok (.iconst (-1), 1) := by decide +kernel
theorem dX10_of_8 : decode cX10_of 8 = .ok (.ireturn, 1) := by decide +kernel
theorem dX10_of_9 : decode cX10_of 9 = .ok (.iload_n 2, 1) := by decide +kernel
theorem dX10_of_10 : decode cX10_of 10 = .ok (.ifCond .ne 15, 3) := by decide +kernel
theorem dX10_of_13 : decode cX10_of 13 = .ok (.aload_n 0, 1) := by decide +kernel
theorem dX10_of_14 : decode cX10_of 14 = .ok (.getfield 7, 3) := by decide +kernel
theorem dX10_of_17 : decode cX10_of 17 = .ok (.bipush 11, 2) := by decide +kernel
theorem dX10_of_19 : decode cX10_of 19 = .ok (.iload_n 1, 1) := by decide +kernel
theorem dX10_of_20 : decode cX10_of 20 = .ok (.iadd, 1) := by decide +kernel
theorem dX10_of_21 : decode cX10_of 21 = .ok (.iaload, 1) := by decide +kernel
theorem dX10_of_22 : decode cX10_of 22 = .ok (.goto 47, 3) := by decide +kernel
theorem dX10_of_25 : decode cX10_of 25 = .ok (.iload_n 2, 1) := by decide +kernel
theorem dX10_of_26 : decode cX10_of 26 = .ok (.iconst 1, 1) := by decide +kernel
theorem dX10_of_27 : decode cX10_of 27 = .ok (.if_icmp .ne 15, 3) := by decide +kernel
theorem dX10_of_30 : decode cX10_of 30 = .ok (.aload_n 0, 1) := by decide +kernel
theorem dX10_of_31 : decode cX10_of 31 = .ok (.getfield 7, 3) := by decide +kernel
theorem dX10_of_34 : decode cX10_of 34 = .ok (.bipush 23, 2) := by decide +kernel
theorem dX10_of_36 : decode cX10_of 36 = .ok (.iload_n 1, 1) := by decide +kernel
theorem dX10_of_37 : decode cX10_of 37 = .ok (.iadd, 1) := by decide +kernel
theorem dX10_of_38 : decode cX10_of 38 = .ok (.iaload, 1) := by decide +kernel
theorem dX10_of_39 : decode cX10_of 39 = .ok (.goto 30, 3) := by decide +kernel
theorem dX10_of_42 : decode cX10_of 42 = .ok (.iload_n 2, 1) := by decide +kernel
theorem dX10_of_43 : decode cX10_of 43 = .ok (.iconst 2, 1) := by decide +kernel
theorem dX10_of_44 : decode cX10_of 44 = .ok (.if_icmp .ne 11, 3) := by decide +kernel
theorem dX10_of_47 : decode cX10_of 47 = .ok (.aload_n 0, 1) := by decide +kernel
theorem dX10_of_48 : decode cX10_of 48 = .ok (.iload_n 1, 1) := by decide +kernel
theorem dX10_of_49 : decode cX10_of 49 = .ok (.invokevirtual 359, 3) := by decide +kernel
theorem dX10_of_52 : decode cX10_of 52 = .ok (.goto 17, 3) := by decide +kernel
theorem dX10_of_55 : decode cX10_of 55 = .ok (.iload_n 2, 1) := by decide +kernel
theorem dX10_of_56 : decode cX10_of 56 = .ok (.iconst 3, 1) := by decide +kernel
theorem dX10_of_57 : decode cX10_of 57 = .ok (.if_icmp .ne 11, 3) := by decide +kernel
theorem dX10_of_60 : decode cX10_of 60 = .ok (.aload_n 0, 1) := by decide +kernel
theorem dX10_of_61 : decode cX10_of 61 = .ok (.iload_n 1, 1) := by decide +kernel
theorem dX10_of_62 : decode cX10_of 62 = .ok (.invokevirtual 294, 3) := by decide +kernel
theorem dX10_of_65 : decode cX10_of 65 = .ok (.goto 4, 3) := by decide +kernel
theorem dX10_of_68 : decode cX10_of 68 = .ok (.iconst (-1), 1) := by decide +kernel
theorem dX10_of_69 : decode cX10_of 69 = .ok (.ireturn, 1) := by decide +kernel
theorem dX10_ofTown_0 : decode cX10_ofTown 0 = .ok (.iload_n 1, 1) := by decide +kernel
theorem dX10_ofTown_1 : decode cX10_ofTown 1 = .ok (.iconst 0, 1) := by decide +kernel
theorem dX10_ofTown_2 : decode cX10_ofTown 2 = .ok (.aload_n 0, 1) := by decide +kernel
theorem dX10_ofTown_3 : decode cX10_ofTown 3 = .ok (.getfield 7, 3) := by decide +kernel
theorem dX10_ofTown_6 : decode cX10_ofTown 6 = .ok (.iconst 1, 1) := by decide +kernel
theorem dX10_ofTown_7 : decode cX10_ofTown 7 = .ok (.iaload, 1) := by decide +kernel
theorem dX10_ofTown_8 : decode cX10_ofTown 8 = .ok (.iconst 1, 1) := by decide +kernel
theorem dX10_ofTown_9 : decode cX10_ofTown 9 = .ok (.isub, 1) := by decide +kernel
theorem dX10_ofTown_10 : decode cX10_ofTown 10 = .ok (.invokestatic 63, 3) := by decide +kernel
theorem dX10_ofTown_13 : decode cX10_ofTown 13 = .ok (.ifCond .eq 15, 3) := by decide +kernel
theorem dX10_ofTown_16 : decode cX10_ofTown 16 = .ok (.aload_n 0, 1) := by decide +kernel
theorem dX10_ofTown_17 : decode cX10_ofTown 17 = .ok (.getfield 7, 3) := by decide +kernel
theorem dX10_ofTown_20 : decode cX10_ofTown 20 = .ok (.bipush 35, 2) := by decide +kernel
theorem dX10_ofTown_22 : decode cX10_ofTown 22 = .ok (.iload_n 1, 1) := by decide +kernel
theorem dX10_ofTown_23 : decode cX10_ofTown 23 = .ok (.iadd, 1) := by decide +kernel
theorem dX10_ofTown_24 : decode cX10_ofTown 24 = .ok (.iaload, 1) := by decide +kernel
theorem dX10_ofTown_25 : decode cX10_ofTown 25 = .ok (.goto 5, 3) := by decide +kernel
theorem dX10_ofTown_28 : decode cX10_ofTown 28 = .ok (.bipush (-2), 2) := by decide +kernel
theorem dX10_ofTown_30 : decode cX10_ofTown 30 = .ok (.ireturn, 1) := by decide +kernel
theorem dX10_ofHand_0 : decode cX10_ofHand 0 = .ok (.aload_n 0, 1) := by decide +kernel
theorem dX10_ofHand_1 : decode cX10_ofHand 1 = .ok (.iload_n 1, 1) := by decide +kernel
theorem dX10_ofHand_2 : decode cX10_ofHand 2 = .ok (.invokevirtual 311, 3) := by decide +kernel
theorem dX10_ofHand_5 : decode cX10_ofHand 5 = .ok (.ifCond .eq 15, 3) := by decide +kernel
theorem dX10_ofHand_8 : decode cX10_ofHand 8 = .ok (.aload_n 0, 1) := by decide +kernel
theorem dX10_ofHand_9 : decode cX10_ofHand 9 = .ok (.getfield 7, 3) := by decide +kernel
theorem dX10_ofHand_12 : decode cX10_ofHand 12 = .ok (.bipush 47, 2) := by decide +kernel
theorem dX10_ofHand_14 : decode cX10_ofHand 14 = .ok (.iload_n 1, 1) := by decide +kernel
theorem dX10_ofHand_15 : decode cX10_ofHand 15 = .ok (.iadd, 1) := by decide +kernel
theorem dX10_ofHand_16 : decode cX10_ofHand 16 = .ok (.iaload, 1) := by decide +kernel
theorem dX10_ofHand_17 : decode cX10_ofHand 17 = .ok (.goto 4, 3) := by decide +kernel
theorem dX10_ofHand_20 : decode cX10_ofHand 20 = .ok (.iconst (-1), 1) := by decide +kernel
theorem dX10_ofHand_21 : decode cX10_ofHand 21 = .ok (.ireturn, 1) := by decide +kernel
theorem dX10_moves_0 : decode cX10_moves 0 = .ok (.aload_n 0, 1) := by decide +kernel
theorem dX10_moves_1 : decode cX10_moves 1 = .ok (.iload_n 1, 1) := by decide +kernel
theorem dX10_moves_2 : decode cX10_moves 2 = .ok (.invokevirtual 311, 3) := by decide +kernel
theorem dX10_moves_5 : decode cX10_moves 5 = .ok (.ifCond .eq 26, 3) := by decide +kernel
theorem dX10_moves_8 : decode cX10_moves 8 = .ok (.iload_n 2, 1) := by decide +kernel
theorem dX10_moves_9 : decode cX10_moves 9 = .ok (.invokestatic 67, 3) := by decide +kernel
theorem dX10_moves_12 : decode cX10_moves 12 = .ok (.ifCond .eq 19, 3) := by decide +kernel
theorem dX10_moves_15 : decode cX10_moves 15 = .ok (.aload_n 0, 1) := by decide +kernel
theorem dX10_moves_16 : decode cX10_moves 16 = .ok (.aload_n 0, 1) := by decide +kernel
theorem dX10_moves_17 : decode cX10_moves 17 = .ok (.getfield 7, 3) := by decide +kernel
theorem dX10_moves_20 : decode cX10_moves 20 = .ok (.iconst 3, 1) := by decide +kernel
theorem dX10_moves_21 : decode cX10_moves 21 = .ok (.iaload, 1) := by decide +kernel
theorem dX10_moves_22 : decode cX10_moves 22 = .ok (.iload_n 1, 1) := by decide +kernel
theorem dX10_moves_23 : decode cX10_moves 23 = .ok (.iload_n 2, 1) := by decide +kernel
theorem dX10_moves_24 : decode cX10_moves 24 = .ok (.iload_n 3, 1) := by decide +kernel
theorem dX10_moves_25 : decode cX10_moves 25 = .ok (.invokevirtual 290, 3) := by decide +kernel
theorem dX10_moves_28 : decode cX10_moves 28 = .ok (.goto 4, 3) := by decide +kernel
theorem dX10_moves_31 : decode cX10_moves 31 = .ok (.iconst (-1), 1) := by decide +kernel
theorem dX10_moves_32 : decode cX10_moves 32 = .ok (.ireturn, 1) := by decide +kernel
theorem dX10_is_0 : decode cX10_is 0 = .ok (.iload_n 1, 1) := by decide +kernel
theorem dX10_is_1 : decode cX10_is 1 = .ok (.iconst 0, 1) := by decide +kernel
theorem dX10_is_2 : decode cX10_is 2 = .ok (.iconst 3, 1) := by decide +kernel
theorem dX10_is_3 : decode cX10_is 3 = .ok (.invokestatic 63, 3) := by decide +kernel
theorem dX10_is_6 : decode cX10_is 6 = .ok (.ifCond .eq 15, 3) := by decide +kernel
theorem dX10_is_9 : decode cX10_is 9 = .ok (.aload_n 0, 1) := by decide +kernel
theorem dX10_is_10 : decode cX10_is 10 = .ok (.getfield 7, 3) := by decide +kernel
theorem dX10_is_13 : decode cX10_is 13 = .ok (.bipush 6, 2) := by decide +kernel
theorem dX10_is_15 : decode cX10_is 15 = .ok (.iload_n 1, 1) := by decide +kernel
theorem dX10_is_16 : decode cX10_is 16 = .ok (.iadd, 1) := by decide +kernel
theorem dX10_is_17 : decode cX10_is 17 = .ok (.iaload, 1) := by decide +kernel
theorem dX10_is_18 : decode cX10_is 18 = .ok (.goto 32, 3) := by decide +kernel
theorem dX10_is_21 : decode cX10_is 21 = .ok (.iload_n 1, 1) := by decide +kernel
theorem dX10_is_22 : decode cX10_is 22 = .ok (.iconst 4, 1) := by decide +kernel
theorem dX10_is_23 : decode cX10_is 23 = .ok (.if_icmp .ne 10, 3) := by decide +kernel
theorem dX10_is_26 : decode cX10_is 26 = .ok (.aload_n 0, 1) := by decide +kernel
theorem dX10_is_27 : decode cX10_is 27 = .ok (.invokevirtual 362, 3) := by decide +kernel
theorem dX10_is_30 : decode cX10_is 30 = .ok (.goto 20, 3) := by decide +kernel
theorem dX10_is_33 : decode cX10_is 33 = .ok (.iload_n 1, 1) := by decide +kernel
theorem dX10_is_34 : decode cX10_is 34 = .ok (.iconst 5, 1) := by decide +kernel
theorem dX10_is_35 : decode cX10_is 35 = .ok (.if_icmp .ne 13, 3) := by decide +kernel
theorem dX10_is_38 : decode cX10_is 38 = .ok (.aload_n 0, 1) := by decide +kernel
theorem dX10_is_39 : decode cX10_is 39 = .ok (.iconst 0, 1) := by decide +kernel
theorem dX10_is_40 : decode cX10_is 40 = .ok (.bipush 12, 2) := by decide +kernel
theorem dX10_is_42 : decode cX10_is 42 = .ok (.invokevirtual 365, 3) := by decide +kernel
theorem dX10_is_45 : decode cX10_is 45 = .ok (.goto 5, 3) := by decide +kernel
theorem dX10_is_48 : decode cX10_is 48 = .ok (.bipush (-2), 2) := by decide +kernel
theorem dX10_is_50 : decode cX10_is 50 = .ok (.ireturn, 1) := by decide +kernel
theorem dX10_entry_0 : decode cX10_entry 0 = .ok (.aload_n 0, 1) := by decide +kernel
theorem dX10_entry_1 : decode cX10_entry 1 = .ok (.getfield 7, 3) := by decide +kernel
theorem dX10_entry_4 : decode cX10_entry 4 = .ok (.sipush 2955, 3) := by decide +kernel
theorem dX10_entry_7 : decode cX10_entry 7 = .ok (.iconst 2, 1) := by decide +kernel
theorem dX10_entry_8 : decode cX10_entry 8 = .ok (.iload_n 1, 1) := by decide +kernel
theorem dX10_entry_9 : decode cX10_entry 9 = .ok (.imul, 1) := by decide +kernel
theorem dX10_entry_10 : decode cX10_entry 10 = .ok (.iadd, 1) := by decide +kernel
theorem dX10_entry_11 : decode cX10_entry 11 = .ok (.iaload, 1) := by decide +kernel
theorem dX10_entry_12 : decode cX10_entry 12 = .ok (.istore_n 3, 1) := by decide +kernel
theorem dX10_entry_13 : decode cX10_entry 13 = .ok (.iload_n 2, 1) := by decide +kernel
theorem dX10_entry_14 : decode cX10_entry 14 = .ok (.ifCond .ne 10, 3) := by decide +kernel
theorem dX10_entry_17 : decode cX10_entry 17 = .ok (.iload_n 3, 1) := by decide +kernel
theorem dX10_entry_18 : decode cX10_entry 18 = .ok (.bipush 96, 2) := by decide +kernel
theorem dX10_entry_20 : decode cX10_entry 20 = .ok (.idiv, 1) := by decide +kernel
theorem dX10_entry_21 : decode cX10_entry 21 = .ok (.goto 43, 3) := by decide +kernel
theorem dX10_entry_24 : decode cX10_entry 24 = .ok (.iload_n 2, 1) := by decide +kernel
theorem dX10_entry_25 : decode cX10_entry 25 = .ok (.iconst 1, 1) := by decide +kernel
theorem dX10_entry_26 : decode cX10_entry 26 = .ok (.if_icmp .ne 12, 3) := by decide +kernel
theorem dX10_entry_29 : decode cX10_entry 29 = .ok (.iload_n 3, 1) := by decide +kernel
theorem dX10_entry_30 : decode cX10_entry 30 = .ok (.bipush 24, 2) := by decide +kernel
theorem dX10_entry_32 : decode cX10_entry 32 = .ok (.idiv, 1) := by decide +kernel
theorem dX10_entry_33 : decode cX10_entry 33 = .ok (.iconst 4, 1) := by decide +kernel
theorem dX10_entry_34 : decode cX10_entry 34 = .ok (.irem, 1) := by decide +kernel
theorem dX10_entry_35 : decode cX10_entry 35 = .ok (.goto 29, 3) := by decide +kernel
theorem dX10_entry_38 : decode cX10_entry 38 = .ok (.iload_n 2, 1) := by decide +kernel
theorem dX10_entry_39 : decode cX10_entry 39 = .ok (.iconst 2, 1) := by decide +kernel
theorem dX10_entry_40 : decode cX10_entry 40 = .ok (.if_icmp .ne 10, 3) := by decide +kernel
theorem dX10_entry_43 : decode cX10_entry 43 = .ok (.iload_n 3, 1) := by decide +kernel
theorem dX10_entry_44 : decode cX10_entry 44 = .ok (.bipush 24, 2) := by decide +kernel
theorem dX10_entry_46 : decode cX10_entry 46 = .ok (.irem, 1) := by decide +kernel
theorem dX10_entry_47 : decode cX10_entry 47 = .ok (.goto 17, 3) := by decide +kernel
theorem dX10_entry_50 : decode cX10_entry 50 = .ok (.aload_n 0, 1) := by decide +kernel
theorem dX10_entry_51 : decode cX10_entry 51 = .ok (.getfield 7, 3) := by decide +kernel
theorem dX10_entry_54 : decode cX10_entry 54 = .ok (.sipush 2955, 3) := by decide +kernel
theorem dX10_entry_57 : decode cX10_entry 57 = .ok (.iconst 2, 1) := by decide +kernel
theorem dX10_entry_58 : decode cX10_entry 58 = .ok (.iload_n 1, 1) := by decide +kernel
theorem dX10_entry_59 : decode cX10_entry 59 = .ok (.imul, 1) := by decide +kernel
theorem dX10_entry_60 : decode cX10_entry 60 = .ok (.iadd, 1) := by decide +kernel
theorem dX10_entry_61 : decode cX10_entry 61 = .ok (.iconst 1, 1) := by decide +kernel
theorem dX10_entry_62 : decode cX10_entry 62 = .ok (.iadd, 1) := by decide +kernel
theorem dX10_entry_63 : decode cX10_entry 63 = .ok (.iaload, 1) := by decide +kernel
theorem dX10_entry_64 : decode cX10_entry 64 = .ok (.ireturn, 1) := by decide +kernel
theorem dX10_book_0 : decode cX10_book 0 = .ok (.iload_n 1, 1) := by decide +kernel
theorem dX10_book_1 : decode cX10_book 1 = .ok (.iconst (-1), 1) := by decide +kernel
theorem dX10_book_2 : decode cX10_book 2 = .ok (.if_icmp .ne 11, 3) := by decide +kernel
theorem dX10_book_5 : decode cX10_book 5 = .ok (.aload_n 0, 1) := by decide +kernel
theorem dX10_book_6 : decode cX10_book 6 = .ok (.getfield 7, 3) := by decide +kernel
theorem dX10_book_9 : decode cX10_book 9 = .ok (.bipush 10, 2) := by decide +kernel
theorem dX10_book_11 : decode cX10_book 11 = .ok (.iaload, 1) := by decide +kernel
theorem dX10_book_12 : decode cX10_book 12 = .ok (.ireturn, 1) := by decide +kernel
theorem dX10_book_13 : decode cX10_book 13 = .ok (.iload_n 1, 1) := by decide +kernel
theorem dX10_book_14 : decode cX10_book 14 = .ok (.iconst 0, 1) := by decide +kernel
theorem dX10_book_15 : decode cX10_book 15 = .ok (.aload_n 0, 1) := by decide +kernel
theorem dX10_book_16 : decode cX10_book 16 = .ok (.getfield 7, 3) := by decide +kernel
theorem dX10_book_19 : decode cX10_book 19 = .ok (.bipush 10, 2) := by decide +kernel
theorem dX10_book_21 : decode cX10_book 21 = .ok (.iaload, 1) := by decide +kernel
theorem dX10_book_22 : decode cX10_book 22 = .ok (.iconst 1, 1) := by decide +kernel
theorem dX10_book_23 : decode cX10_book 23 = .ok (.isub, 1) := by decide +kernel
theorem dX10_book_24 : decode cX10_book 24 = .ok (.invokestatic 63, 3) := by decide +kernel
theorem dX10_book_27 : decode cX10_book 27 = .ok (.ifCond .eq 21, 3) := by decide +kernel
theorem dX10_book_30 : decode cX10_book 30 = .ok (.iload_n 2, 1) := by decide +kernel
theorem dX10_book_31 : decode cX10_book 31 = .ok (.iconst 0, 1) := by decide +kernel
theorem dX10_book_32 : decode cX10_book 32 = .ok (.iconst 3, 1) := by decide +kernel
theorem dX10_book_33 : decode cX10_book 33 = .ok (.invokestatic 63, 3) := by decide +kernel
theorem dX10_book_36 : decode cX10_book 36 = .ok (.ifCond .eq 12, 3) := by decide +kernel
theorem dX10_book_39 : decode cX10_book 39 = .ok (.aload_n 0, 1) := by decide +kernel
theorem dX10_book_40 : decode cX10_book 40 = .ok (.iload_n 1, 1) := by decide +kernel
theorem dX10_book_41 : decode cX10_book 41 = .ok (.iload_n 2, 1) := by decide +kernel
theorem dX10_book_42 : decode cX10_book 42 = .ok (.invokevirtual 368, 3) := by decide +kernel
theorem dX10_book_45 : decode cX10_book 45 = .ok (.goto 5, 3) := by decide +kernel
theorem dX10_book_48 : decode cX10_book 48 = .ok (.bipush (-2), 2) := by decide +kernel
theorem dX10_book_50 : decode cX10_book 50 = .ok (.ireturn, 1) := by decide +kernel
theorem dX10_ledger_0 : decode cX10_ledger 0 = .ok (.iload_n 1, 1) := by decide +kernel
theorem dX10_ledger_1 : decode cX10_ledger 1 = .ok (.iconst (-1), 1) := by decide +kernel
theorem dX10_ledger_2 : decode cX10_ledger 2 = .ok (.if_icmp .eq 14, 3) := by decide +kernel
theorem dX10_ledger_5 : decode cX10_ledger 5 = .ok (.aload_n 0, 1) := by decide +kernel
theorem dX10_ledger_6 : decode cX10_ledger 6 = .ok (.iload_n 1, 1) := by decide +kernel
theorem dX10_ledger_7 : decode cX10_ledger 7 = .ok (.invokevirtual 311, 3) := by decide +kernel
theorem dX10_ledger_10 : decode cX10_ledger 10 = .ok (.ifCond .ne 6, 3) := by decide +kernel
theorem dX10_ledger_13 : decode cX10_ledger 13 = .ok (.bipush (-2), 2) := by decide +kernel
theorem dX10_ledger_15 : decode cX10_ledger 15 = .ok (.ireturn, 1) := by decide +kernel
theorem dX10_ledger_16 : decode cX10_ledger 16 = .ok (.iconst 0, 1) := by decide +kernel
theorem dX10_ledger_17 : decode cX10_ledger 17 = .ok (.istore_n 2, 1) := by decide +kernel
theorem dX10_ledger_18 : decode cX10_ledger 18 = .ok (.iconst 0, 1) := by decide +kernel
theorem dX10_ledger_19 : decode cX10_ledger 19 = .ok (.istore_n 3, 1) := by decide +kernel
theorem dX10_ledger_20 : decode cX10_ledger 20 = .ok (.iload_n 3, 1) := by decide +kernel
theorem dX10_ledger_21 : decode cX10_ledger 21 = .ok (.aload_n 0, 1) := by decide +kernel
theorem dX10_ledger_22 : decode cX10_ledger 22 = .ok (.getfield 7, 3) := by decide +kernel
theorem dX10_ledger_25 : decode cX10_ledger 25 = .ok (.bipush 10, 2) := by decide +kernel
theorem dX10_ledger_27 : decode cX10_ledger 27 = .ok (.iaload, 1) := by decide +kernel
theorem dX10_ledger_28 : decode cX10_ledger 28 = .ok (.if_icmp .ge 37, 3) := by decide +kernel
theorem dX10_ledger_31 : decode cX10_ledger 31 = .ok (.iload_n 2, 1) := by decide +kernel
theorem dX10_ledger_32 : decode cX10_ledger 32 = .ok (.iload_n 1, 1) := by decide +kernel
theorem dX10_ledger_33 : decode cX10_ledger 33 = .ok (.iconst (-1), 1) := by decide +kernel
theorem dX10_ledger_34 : decode cX10_ledger 34 = .ok (.if_icmp .eq 13, 3) := by decide +kernel
theorem dX10_ledger_37 : decode cX10_ledger 37 = .ok (.aload_n 0, 1) := by decide +kernel
theorem dX10_ledger_38 : decode cX10_ledger 38 = .ok (.iload_n 3, 1) := by decide +kernel
theorem dX10_ledger_39 : decode cX10_ledger 39 = .ok (.iconst 1, 1) := by decide +kernel
theorem dX10_ledger_40 : decode cX10_ledger 40 = .ok (.invokevirtual 368, 3) := by decide +kernel
theorem dX10_ledger_43 : decode cX10_ledger 43 = .ok (.iload_n 1, 1) := by decide +kernel
theorem dX10_ledger_44 : decode cX10_ledger 44 = .ok (.if_icmp .ne 12, 3) := by decide +kernel
theorem dX10_ledger_47 : decode cX10_ledger 47 = .ok (.aload_n 0, 1) := by decide +kernel
theorem dX10_ledger_48 : decode cX10_ledger 48 = .ok (.iload_n 3, 1) := by decide +kernel
theorem dX10_ledger_49 : decode cX10_ledger 49 = .ok (.iconst 3, 1) := by decide +kernel
theorem dX10_ledger_50 : decode cX10_ledger 50 = .ok (.invokevirtual 368, 3) := by decide +kernel
theorem dX10_ledger_53 : decode cX10_ledger 53 = .ok (.goto 4, 3) := by decide +kernel
theorem dX10_ledger_56 : decode cX10_ledger 56 = .ok (.iconst 0, 1) := by decide +kernel
theorem dX10_ledger_57 : decode cX10_ledger 57 = .ok (.iadd, 1) := by decide +kernel
theorem dX10_ledger_58 : decode cX10_ledger 58 = .ok (.istore_n 2, 1) := by decide +kernel
theorem dX10_ledger_59 : decode cX10_ledger 59 = .ok (.iinc 3 1, 3) := by decide +kernel
theorem dX10_ledger_62 : decode cX10_ledger 62 = .ok (.goto (-42), 3) := by decide +kernel
theorem dX10_ledger_65 : decode cX10_ledger 65 = .ok (.iload_n 2, 1) := by decide +kernel
theorem dX10_ledger_66 : decode cX10_ledger 66 = .ok (.ireturn, 1) := by decide +kernel
theorem dX10_thin_0 : decode cX10_thin 0 = .ok (.iconst 0, 1) := by decide +kernel
theorem dX10_thin_1 : decode cX10_thin 1 = .ok (.istore_n 1, 1) := by decide +kernel
theorem dX10_thin_2 : decode cX10_thin 2 = .ok (.iconst 1, 1) := by decide +kernel
theorem dX10_thin_3 : decode cX10_thin 3 = .ok (.istore_n 2, 1) := by decide +kernel
theorem dX10_thin_4 : decode cX10_thin 4 = .ok (.iload_n 2, 1) := by decide +kernel
theorem dX10_thin_5 : decode cX10_thin 5 = .ok (.bipush 12, 2) := by decide +kernel
theorem dX10_thin_7 : decode cX10_thin 7 = .ok (.if_icmp .ge 32, 3) := by decide +kernel
theorem dX10_thin_10 : decode cX10_thin 10 = .ok (.aload_n 0, 1) := by decide +kernel
theorem dX10_thin_11 : decode cX10_thin 11 = .ok (.getfield 7, 3) := by decide +kernel
theorem dX10_thin_14 : decode cX10_thin 14 = .ok (.bipush 11, 2) := by decide +kernel
theorem dX10_thin_16 : decode cX10_thin 16 = .ok (.iload_n 2, 1) := by decide +kernel
theorem dX10_thin_17 : decode cX10_thin 17 = .ok (.iadd, 1) := by decide +kernel
theorem dX10_thin_18 : decode cX10_thin 18 = .ok (.iaload, 1) := by decide +kernel
theorem dX10_thin_19 : decode cX10_thin 19 = .ok (.aload_n 0, 1) := by decide +kernel
theorem dX10_thin_20 : decode cX10_thin 20 = .ok (.getfield 7, 3) := by decide +kernel
theorem dX10_thin_23 : decode cX10_thin 23 = .ok (.bipush 11, 2) := by decide +kernel
theorem dX10_thin_25 : decode cX10_thin 25 = .ok (.iload_n 1, 1) := by decide +kernel
theorem dX10_thin_26 : decode cX10_thin 26 = .ok (.iadd, 1) := by decide +kernel
theorem dX10_thin_27 : decode cX10_thin 27 = .ok (.iaload, 1) := by decide +kernel
theorem dX10_thin_28 : decode cX10_thin 28 = .ok (.if_icmp .ge 5, 3) := by decide +kernel
theorem dX10_thin_31 : decode cX10_thin 31 = .ok (.iload_n 2, 1) := by decide +kernel
theorem dX10_thin_32 : decode cX10_thin 32 = .ok (.istore_n 1, 1) := by decide +kernel
theorem dX10_thin_33 : decode cX10_thin 33 = .ok (.iinc 2 1, 3) := by decide +kernel
theorem dX10_thin_36 : decode cX10_thin 36 = .ok (.goto (-32), 3) := by decide +kernel
theorem dX10_thin_39 : decode cX10_thin 39 = .ok (.iload_n 1, 1) := by decide +kernel
theorem dX10_thin_40 : decode cX10_thin 40 = .ok (.ireturn, 1) := by decide +kernel
theorem dX10_thick_0 : decode cX10_thick 0 = .ok (.iconst 0, 1) := by decide +kernel
theorem dX10_thick_1 : decode cX10_thick 1 = .ok (.istore_n 1, 1) := by decide +kernel
theorem dX10_thick_2 : decode cX10_thick 2 = .ok (.iconst 1, 1) := by decide +kernel
theorem dX10_thick_3 : decode cX10_thick 3 = .ok (.istore_n 2, 1) := by decide +kernel
theorem dX10_thick_4 : decode cX10_thick 4 = .ok (.iload_n 2, 1) := by decide +kernel
theorem dX10_thick_5 : decode cX10_thick 5 = .ok (.bipush 12, 2) := by decide +kernel
theorem dX10_thick_7 : decode cX10_thick 7 = .ok (.if_icmp .ge 32, 3) := by decide +kernel
theorem dX10_thick_10 : decode cX10_thick 10 = .ok (.aload_n 0, 1) := by decide +kernel
theorem dX10_thick_11 : decode cX10_thick 11 = .ok (.getfield 7, 3) := by decide +kernel
theorem dX10_thick_14 : decode cX10_thick 14 = .ok (.bipush 11, 2) := by decide +kernel
theorem dX10_thick_16 : decode cX10_thick 16 = .ok (.iload_n 2, 1) := by decide +kernel
theorem dX10_thick_17 : decode cX10_thick 17 = .ok (.iadd, 1) := by decide +kernel
theorem dX10_thick_18 : decode cX10_thick 18 = .ok (.iaload, 1) := by decide +kernel
theorem dX10_thick_19 : decode cX10_thick 19 = .ok (.aload_n 0, 1) := by decide +kernel
theorem dX10_thick_20 : decode cX10_thick 20 = .ok (.getfield 7, 3) := by decide +kernel
theorem dX10_thick_23 : decode cX10_thick 23 = .ok (.bipush 11, 2) := by decide +kernel
theorem dX10_thick_25 : decode cX10_thick 25 = .ok (.iload_n 1, 1) := by decide +kernel
theorem dX10_thick_26 : decode cX10_thick 26 = .ok (.iadd, 1) := by decide +kernel
theorem dX10_thick_27 : decode cX10_thick 27 = .ok (.iaload, 1) := by decide +kernel
theorem dX10_thick_28 : decode cX10_thick 28 = .ok (.if_icmp .le 5, 3) := by decide +kernel
theorem dX10_thick_31 : decode cX10_thick 31 = .ok (.iload_n 2, 1) := by decide +kernel
theorem dX10_thick_32 : decode cX10_thick 32 = .ok (.istore_n 1, 1) := by decide +kernel
theorem dX10_thick_33 : decode cX10_thick 33 = .ok (.iinc 2 1, 3) := by decide +kernel
theorem dX10_thick_36 : decode cX10_thick 36 = .ok (.goto (-32), 3) := by decide +kernel
theorem dX10_thick_39 : decode cX10_thick 39 = .ok (.iload_n 1, 1) := by decide +kernel
theorem dX10_thick_40 : decode cX10_thick 40 = .ok (.ireturn, 1) := by decide +kernel
theorem dX10_fallen_0 : decode cX10_fallen 0 = .ok (.aload_n 0, 1) := by decide +kernel
theorem dX10_fallen_1 : decode cX10_fallen 1 = .ok (.iconst (-1), 1) := by decide +kernel
theorem dX10_fallen_2 : decode cX10_fallen 2 = .ok (.invokevirtual 359, 3) := by decide +kernel
theorem dX10_fallen_5 : decode cX10_fallen 5 = .ok (.ireturn, 1) := by decide +kernel
theorem dX10_apart_0 : decode cX10_apart 0 = .ok (.ldc_w 371, 3) := by decide +kernel
theorem dX10_apart_3 : decode cX10_apart 3 = .ok (.istore_n 1, 1) := by decide +kernel
theorem dX10_apart_4 : decode cX10_apart 4 = .ok (.iconst 0, 1) := by decide +kernel
theorem dX10_apart_5 : decode cX10_apart 5 = .ok (.istore_n 2, 1) := by decide +kernel
theorem dX10_apart_6 : decode cX10_apart 6 = .ok (.iload_n 2, 1) := by decide +kernel
theorem dX10_apart_7 : decode cX10_apart 7 = .ok (.aload_n 0, 1) := by decide +kernel
theorem dX10_apart_8 : decode cX10_apart 8 = .ok (.getfield 7, 3) := by decide +kernel
theorem dX10_apart_11 : decode cX10_apart 11 = .ok (.iconst 1, 1) := by decide +kernel
theorem dX10_apart_12 : decode cX10_apart 12 = .ok (.iaload, 1) := by decide +kernel
theorem dX10_apart_13 : decode cX10_apart 13 = .ok (.if_icmp .ge 128, 3) := by decide +kernel
theorem dX10_apart_16 : decode cX10_apart 16 = .ok (.iload_n 2, 1) := by decide +kernel
theorem dX10_apart_17 : decode cX10_apart 17 = .ok (.iconst 1, 1) := by decide +kernel
theorem dX10_apart_18 : decode cX10_apart 18 = .ok (.iadd, 1) := by decide +kernel
theorem dX10_apart_19 : decode cX10_apart 19 = .ok (.istore_n 3, 1) := by decide +kernel
theorem dX10_apart_20 : decode cX10_apart 20 = .ok (.iload_n 3, 1) := by decide +kernel
theorem dX10_apart_21 : decode cX10_apart 21 = .ok (.aload_n 0, 1) := by decide +kernel
theorem dX10_apart_22 : decode cX10_apart 22 = .ok (.getfield 7, 3) := by decide +kernel
theorem dX10_apart_25 : decode cX10_apart 25 = .ok (.iconst 1, 1) := by decide +kernel
theorem dX10_apart_26 : decode cX10_apart 26 = .ok (.iaload, 1) := by decide +kernel
theorem dX10_apart_27 : decode cX10_apart 27 = .ok (.if_icmp .ge 108, 3) := by decide +kernel
theorem dX10_apart_30 : decode cX10_apart 30 = .ok (.aload_n 0, 1) := by decide +kernel
theorem dX10_apart_31 : decode cX10_apart 31 = .ok (.getfield 7, 3) := by decide +kernel
theorem dX10_apart_34 : decode cX10_apart 34 = .ok (.bipush 35, 2) := by decide +kernel
theorem dX10_apart_36 : decode cX10_apart 36 = .ok (.iload_n 2, 1) := by decide +kernel
theorem dX10_apart_37 : decode cX10_apart 37 = .ok (.iadd, 1) := by decide +kernel
theorem dX10_apart_38 : decode cX10_apart 38 = .ok (.iaload, 1) := by decide +kernel
theorem dX10_apart_39 : decode cX10_apart 39 = .ok (.aload_n 0, 1) := by decide +kernel
theorem dX10_apart_40 : decode cX10_apart 40 = .ok (.getfield 7, 3) := by decide +kernel
theorem dX10_apart_43 : decode cX10_apart 43 = .ok (.bipush 35, 2) := by decide +kernel
theorem dX10_apart_45 : decode cX10_apart 45 = .ok (.iload_n 3, 1) := by decide +kernel
theorem dX10_apart_46 : decode cX10_apart 46 = .ok (.iadd, 1) := by decide +kernel
theorem dX10_apart_47 : decode cX10_apart 47 = .ok (.iaload, 1) := by decide +kernel
theorem dX10_apart_48 : decode cX10_apart 48 = .ok (.if_icmp .le 25, 3) := by decide +kernel
theorem dX10_apart_51 : decode cX10_apart 51 = .ok (.aload_n 0, 1) := by decide +kernel
theorem dX10_apart_52 : decode cX10_apart 52 = .ok (.getfield 7, 3) := by decide +kernel
theorem dX10_apart_55 : decode cX10_apart 55 = .ok (.bipush 35, 2) := by decide +kernel
theorem dX10_apart_57 : decode cX10_apart 57 = .ok (.iload_n 2, 1) := by decide +kernel
theorem dX10_apart_58 : decode cX10_apart 58 = .ok (.iadd, 1) := by decide +kernel
theorem dX10_apart_59 : decode cX10_apart 59 = .ok (.iaload, 1) := by decide +kernel
theorem dX10_apart_60 : decode cX10_apart 60 = .ok (.aload_n 0, 1) := by decide +kernel
theorem dX10_apart_61 : decode cX10_apart 61 = .ok (.getfield 7, 3) := by decide +kernel
theorem dX10_apart_64 : decode cX10_apart 64 = .ok (.bipush 35, 2) := by decide +kernel
theorem dX10_apart_66 : decode cX10_apart 66 = .ok (.iload_n 3, 1) := by decide +kernel
theorem dX10_apart_67 : decode cX10_apart 67 = .ok (.iadd, 1) := by decide +kernel
theorem dX10_apart_68 : decode cX10_apart 68 = .ok (.iaload, 1) := by decide +kernel
theorem dX10_apart_69 : decode cX10_apart 69 = .ok (.isub, 1) := by decide +kernel
theorem dX10_apart_70 : decode cX10_apart 70 = .ok (.goto 22, 3) := by decide +kernel
theorem dX10_apart_73 : decode cX10_apart 73 = .ok (.aload_n 0, 1) := by decide +kernel
theorem dX10_apart_74 : decode cX10_apart 74 = .ok (.getfield 7, 3) := by decide +kernel
theorem dX10_apart_77 : decode cX10_apart 77 = .ok (.bipush 35, 2) := by decide +kernel
theorem dX10_apart_79 : decode cX10_apart 79 = .ok (.iload_n 3, 1) := by decide +kernel
theorem dX10_apart_80 : decode cX10_apart 80 = .ok (.iadd, 1) := by decide +kernel
theorem dX10_apart_81 : decode cX10_apart 81 = .ok (.iaload, 1) := by decide +kernel
theorem dX10_apart_82 : decode cX10_apart 82 = .ok (.aload_n 0, 1) := by decide +kernel
theorem dX10_apart_83 : decode cX10_apart 83 = .ok (.getfield 7, 3) := by decide +kernel
theorem dX10_apart_86 : decode cX10_apart 86 = .ok (.bipush 35, 2) := by decide +kernel
theorem dX10_apart_88 : decode cX10_apart 88 = .ok (.iload_n 2, 1) := by decide +kernel
theorem dX10_apart_89 : decode cX10_apart 89 = .ok (.iadd, 1) := by decide +kernel
theorem dX10_apart_90 : decode cX10_apart 90 = .ok (.iaload, 1) := by decide +kernel
theorem dX10_apart_91 : decode cX10_apart 91 = .ok (.isub, 1) := by decide +kernel
theorem dX10_apart_92 : decode cX10_apart 92 = .ok (.istore 4, 2) := by decide +kernel
theorem dX10_apart_94 : decode cX10_apart 94 = .ok (.aload_n 0, 1) := by decide +kernel
theorem dX10_apart_95 : decode cX10_apart 95 = .ok (.getfield 7, 3) := by decide +kernel
theorem dX10_apart_98 : decode cX10_apart 98 = .ok (.bipush 35, 2) := by decide +kernel
theorem dX10_apart_100 : decode cX10_apart 100 = .ok (.iload_n 2, 1) := by decide +kernel
theorem dX10_apart_101 : decode cX10_apart 101 = .ok (.iadd, 1) := by decide +kernel
theorem dX10_apart_102 : decode cX10_apart 102 = .ok (.iaload, 1) := by decide +kernel
theorem dX10_apart_103 : decode cX10_apart 103 = .ok (.iconst (-1), 1) := by decide +kernel
theorem dX10_apart_104 : decode cX10_apart 104 = .ok (.if_icmp .eq 25, 3) := by decide +kernel
theorem dX10_apart_107 : decode cX10_apart 107 = .ok (.aload_n 0, 1) := by decide +kernel
theorem dX10_apart_108 : decode cX10_apart 108 = .ok (.getfield 7, 3) := by decide +kernel
theorem dX10_apart_111 : decode cX10_apart 111 = .ok (.bipush 35, 2) := by decide +kernel
theorem dX10_apart_113 : decode cX10_apart 113 = .ok (.iload_n 3, 1) := by decide +kernel
theorem dX10_apart_114 : decode cX10_apart 114 = .ok (.iadd, 1) := by decide +kernel
theorem dX10_apart_115 : decode cX10_apart 115 = .ok (.iaload, 1) := by decide +kernel
theorem dX10_apart_116 : decode cX10_apart 116 = .ok (.iconst (-1), 1) := by decide +kernel
theorem dX10_apart_117 : decode cX10_apart 117 = .ok (.if_icmp .eq 12, 3) := by decide +kernel
theorem dX10_apart_120 : decode cX10_apart 120 = .ok (.iload 4, 2) := by decide +kernel
theorem dX10_apart_122 : decode cX10_apart 122 = .ok (.iload_n 1, 1) := by decide +kernel
theorem dX10_apart_123 : decode cX10_apart 123 = .ok (.if_icmp .ge 6, 3) := by decide +kernel
theorem dX10_apart_126 : decode cX10_apart 126 = .ok (.iload 4, 2) := by decide +kernel
theorem dX10_apart_128 : decode cX10_apart 128 = .ok (.istore_n 1, 1) := by decide +kernel
theorem dX10_apart_129 : decode cX10_apart 129 = .ok (.iinc 3 1, 3) := by decide +kernel
theorem dX10_apart_132 : decode cX10_apart 132 = .ok (.goto (-112), 3) := by decide +kernel
theorem dX10_apart_135 : decode cX10_apart 135 = .ok (.iinc 2 1, 3) := by decide +kernel
theorem dX10_apart_138 : decode cX10_apart 138 = .ok (.goto (-132), 3) := by decide +kernel
theorem dX10_apart_141 : decode cX10_apart 141 = .ok (.iload_n 1, 1) := by decide +kernel
theorem dX10_apart_142 : decode cX10_apart 142 = .ok (.ldc_w 371, 3) := by decide +kernel
theorem dX10_apart_145 : decode cX10_apart 145 = .ok (.if_icmp .ne 7, 3) := by decide +kernel
theorem dX10_apart_148 : decode cX10_apart 148 = .ok (.iconst (-1), 1) := by decide +kernel
theorem dX10_apart_149 : decode cX10_apart 149 = .ok (.goto 4, 3) := by decide +kernel
theorem dX10_apart_152 : decode cX10_apart 152 = .ok (.iload_n 1, 1) := by decide +kernel
theorem dX10_apart_153 : decode cX10_apart 153 = .ok (.ireturn, 1) := by decide +kernel
theorem dX10_setAside_0 : decode cX10_setAside 0 = .ok (.bipush 6, 2) := by decide +kernel
theorem dX10_setAside_2 : decode cX10_setAside 2 = .ok (.istore_n 1, 1) := by decide +kernel
theorem dX10_setAside_3 : decode cX10_setAside 3 = .ok (.iload_n 1, 1) := by decide +kernel
theorem dX10_setAside_4 : decode cX10_setAside 4 = .ok (.bipush 41, 2) := by decide +kernel
theorem dX10_setAside_6 : decode cX10_setAside 6 = .ok (.if_icmp .ge 21, 3) := by decide +kernel
theorem dX10_setAside_9 : decode cX10_setAside 9 = .ok (.aload_n 0, 1) := by decide +kernel
theorem dX10_setAside_10 : decode cX10_setAside 10 = .ok (.getfield 47, 3) := by decide +kernel
theorem dX10_setAside_13 : decode cX10_setAside 13 = .ok (.iload_n 1, 1) := by decide +kernel
theorem dX10_setAside_14 : decode cX10_setAside 14 = .ok (.aload_n 0, 1) := by decide +kernel
theorem dX10_setAside_15 : decode cX10_setAside 15 = .ok (.getfield 7, 3) := by decide +kernel
theorem dX10_setAside_18 : decode cX10_setAside 18 = .ok (.iload_n 1, 1) := by decide +kernel
theorem dX10_setAside_19 : decode cX10_setAside 19 = .ok (.iaload, 1) := by decide +kernel
theorem dX10_setAside_20 : decode cX10_setAside 20 = .ok (.iastore, 1) := by decide +kernel
theorem dX10_setAside_21 : decode cX10_setAside 21 = .ok (.iinc 1 1, 3) := by decide +kernel
theorem dX10_setAside_24 : decode cX10_setAside 24 = .ok (.goto (-21), 3) := by decide +kernel
theorem dX10_setAside_27 : decode cX10_setAside 27 = .ok (.aload_n 0, 1) := by decide +kernel
theorem dX10_setAside_28 : decode cX10_setAside 28 = .ok (.iconst 0, 1) := by decide +kernel
theorem dX10_setAside_29 : decode cX10_setAside 29 = .ok (.putfield 43, 3) := by decide +kernel
theorem dX10_setAside_32 : decode cX10_setAside 32 = .ok (.return_, 1) := by decide +kernel
theorem dX10_putBack_0 : decode cX10_putBack 0 = .ok (.bipush 6, 2) := by decide +kernel
theorem dX10_putBack_2 : decode cX10_putBack 2 = .ok (.istore_n 1, 1) := by decide +kernel
theorem dX10_putBack_3 : decode cX10_putBack 3 = .ok (.iload_n 1, 1) := by decide +kernel
theorem dX10_putBack_4 : decode cX10_putBack 4 = .ok (.bipush 41, 2) := by decide +kernel
theorem dX10_putBack_6 : decode cX10_putBack 6 = .ok (.if_icmp .ge 21, 3) := by decide +kernel
theorem dX10_putBack_9 : decode cX10_putBack 9 = .ok (.aload_n 0, 1) := by decide +kernel
theorem dX10_putBack_10 : decode cX10_putBack 10 = .ok (.getfield 7, 3) := by decide +kernel
theorem dX10_putBack_13 : decode cX10_putBack 13 = .ok (.iload_n 1, 1) := by decide +kernel
theorem dX10_putBack_14 : decode cX10_putBack 14 = .ok (.aload_n 0, 1) := by decide +kernel
theorem dX10_putBack_15 : decode cX10_putBack 15 = .ok (.getfield 47, 3) := by decide +kernel
theorem dX10_putBack_18 : decode cX10_putBack 18 = .ok (.iload_n 1, 1) := by decide +kernel
theorem dX10_putBack_19 : decode cX10_putBack 19 = .ok (.iaload, 1) := by decide +kernel
theorem dX10_putBack_20 : decode cX10_putBack 20 = .ok (.iastore, 1) := by decide +kernel
theorem dX10_putBack_21 : decode cX10_putBack 21 = .ok (.iinc 1 1, 3) := by decide +kernel
theorem dX10_putBack_24 : decode cX10_putBack 24 = .ok (.goto (-21), 3) := by decide +kernel
theorem dX10_putBack_27 : decode cX10_putBack 27 = .ok (.aload_n 0, 1) := by decide +kernel
theorem dX10_putBack_28 : decode cX10_putBack 28 = .ok (.iconst 1, 1) := by decide +kernel
theorem dX10_putBack_29 : decode cX10_putBack 29 = .ok (.putfield 43, 3) := by decide +kernel
theorem dX10_putBack_32 : decode cX10_putBack 32 = .ok (.return_, 1) := by decide +kernel
theorem dX10_foretold_0 : decode cX10_foretold 0 = .ok (.iload_n 1, 1) := by decide +kernel
theorem dX10_foretold_1 : decode cX10_foretold 1 = .ok (.iconst 1, 1) := by decide +kernel
theorem dX10_foretold_2 : decode cX10_foretold 2 = .ok (.bipush 60, 2) := by decide +kernel
theorem dX10_foretold_4 : decode cX10_foretold 4 = .ok (.invokestatic 63, 3) := by decide +kernel
theorem dX10_foretold_7 : decode cX10_foretold 7 = .ok (.ifCond .eq 44, 3) := by decide +kernel
theorem dX10_foretold_10 : decode cX10_foretold 10 = .ok (.iload_n 2, 1) := by decide +kernel
theorem dX10_foretold_11 : decode cX10_foretold 11 = .ok (.iconst 0, 1) := by decide +kernel
theorem dX10_foretold_12 : decode cX10_foretold 12 = .ok (.iconst 2, 1) := by decide +kernel
theorem dX10_foretold_13 : decode cX10_foretold 13 = .ok (.invokestatic 63, 3) := by decide +kernel
theorem dX10_foretold_16 : decode cX10_foretold 16 = .ok (.ifCond .eq 35, 3) := by decide +kernel
theorem dX10_foretold_19 : decode cX10_foretold 19 = .ok (.iload_n 2, 1) := by decide +kernel
theorem dX10_foretold_20 : decode cX10_foretold 20 = .ok (.ifCond .ne 10, 3) := by decide +kernel
theorem dX10_foretold_23 : decode cX10_foretold 23 = .ok (.iload_n 3, 1) := by decide +kernel
theorem dX10_foretold_24 : decode cX10_foretold 24 = .ok (.invokestatic 67, 3) := by decide +kernel
theorem dX10_foretold_27 : decode cX10_foretold 27 = .ok (.ifCond .eq 24, 3) := by decide +kernel
theorem dX10_foretold_30 : decode cX10_foretold 30 = .ok (.iload_n 2, 1) := by decide +kernel
theorem dX10_foretold_31 : decode cX10_foretold 31 = .ok (.iconst 1, 1) := by decide +kernel
theorem dX10_foretold_32 : decode cX10_foretold 32 = .ok (.if_icmp .ne 22, 3) := by decide +kernel
theorem dX10_foretold_35 : decode cX10_foretold 35 = .ok (.iload_n 3, 1) := by decide +kernel
theorem dX10_foretold_36 : decode cX10_foretold 36 = .ok (.iconst 0, 1) := by decide +kernel
theorem dX10_foretold_37 : decode cX10_foretold 37 = .ok (.aload_n 0, 1) := by decide +kernel
theorem dX10_foretold_38 : decode cX10_foretold 38 = .ok (.getfield 7, 3) := by decide +kernel
theorem dX10_foretold_41 : decode cX10_foretold 41 = .ok (.iconst 1, 1) := by decide +kernel
theorem dX10_foretold_42 : decode cX10_foretold 42 = .ok (.iaload, 1) := by decide +kernel
theorem dX10_foretold_43 : decode cX10_foretold 43 = .ok (.iconst 1, 1) := by decide +kernel
theorem dX10_foretold_44 : decode cX10_foretold 44 = .ok (.isub, 1) := by decide +kernel
theorem dX10_foretold_45 : decode cX10_foretold 45 = .ok (.invokestatic 63, 3) := by decide +kernel
theorem dX10_foretold_48 : decode cX10_foretold 48 = .ok (.ifCond .ne 6, 3) := by decide +kernel
theorem dX10_foretold_51 : decode cX10_foretold 51 = .ok (.bipush (-2), 2) := by decide +kernel
theorem dX10_foretold_53 : decode cX10_foretold 53 = .ok (.ireturn, 1) := by decide +kernel
theorem dX10_foretold_54 : decode cX10_foretold 54 = .ok (.aload_n 0, 1) := by decide +kernel
theorem dX10_foretold_55 : decode cX10_foretold 55 = .ok (.invokevirtual 372, 3) := by decide +kernel
theorem dX10_foretold_58 : decode cX10_foretold 58 = .ok (.iconst 0, 1) := by decide +kernel
theorem dX10_foretold_59 : decode cX10_foretold 59 = .ok (.istore 4, 2) := by decide +kernel
theorem dX10_foretold_61 : decode cX10_foretold 61 = .ok (.iload 4, 2) := by decide +kernel
theorem dX10_foretold_63 : decode cX10_foretold 63 = .ok (.iload_n 1, 1) := by decide +kernel
theorem dX10_foretold_64 : decode cX10_foretold 64 = .ok (.if_icmp .ge 26, 3) := by decide +kernel
theorem dX10_foretold_67 : decode cX10_foretold 67 = .ok (.aload_n 0, 1) := by decide +kernel
theorem dX10_foretold_68 : decode cX10_foretold 68 = .ok (.getfield 7, 3) := by decide +kernel
theorem dX10_foretold_71 : decode cX10_foretold 71 = .ok (.bipush 6, 2) := by decide +kernel
theorem dX10_foretold_73 : decode cX10_foretold 73 = .ok (.iaload, 1) := by decide +kernel
theorem dX10_foretold_74 : decode cX10_foretold 74 = .ok (.sipush 9999, 3) := by decide +kernel
theorem dX10_foretold_77 : decode cX10_foretold 77 = .ok (.if_icmp .ge 7, 3) := by decide +kernel
theorem dX10_foretold_80 : decode cX10_foretold 80 = .ok (.aload_n 0, 1) := by decide +kernel
theorem dX10_foretold_81 : decode cX10_foretold 81 = .ok (.invokevirtual 329, 3) := by decide +kernel
theorem dX10_foretold_84 : decode cX10_foretold 84 = .ok (.iinc 4 1, 3) := by decide +kernel
theorem dX10_foretold_87 : decode cX10_foretold 87 = .ok (.goto (-26), 3) := by decide +kernel
theorem dX10_foretold_90 : decode cX10_foretold 90 = .ok (.iload_n 2, 1) := by decide +kernel
theorem dX10_foretold_91 : decode cX10_foretold 91 = .ok (.ifCond .ne 15, 3) := by decide +kernel
theorem dX10_foretold_94 : decode cX10_foretold 94 = .ok (.aload_n 0, 1) := by decide +kernel
theorem dX10_foretold_95 : decode cX10_foretold 95 = .ok (.getfield 7, 3) := by decide +kernel
theorem dX10_foretold_98 : decode cX10_foretold 98 = .ok (.bipush 11, 2) := by decide +kernel
theorem dX10_foretold_100 : decode cX10_foretold 100 = .ok (.iload_n 3, 1) := by decide +kernel
theorem dX10_foretold_101 : decode cX10_foretold 101 = .ok (.iadd, 1) := by decide +kernel
theorem dX10_foretold_102 : decode cX10_foretold 102 = .ok (.iaload, 1) := by decide +kernel
theorem dX10_foretold_103 : decode cX10_foretold 103 = .ok (.goto 24, 3) := by decide +kernel
theorem dX10_foretold_106 : decode cX10_foretold 106 = .ok (.iload_n 2, 1) := by decide +kernel
theorem dX10_foretold_107 : decode cX10_foretold 107 = .ok (.iconst 1, 1) := by decide +kernel
theorem dX10_foretold_108 : decode cX10_foretold 108 = .ok (.if_icmp .ne 15, 3) := by decide +kernel
theorem dX10_foretold_111 : decode cX10_foretold 111 = .ok (.aload_n 0, 1) := by decide +kernel
theorem dX10_foretold_112 : decode cX10_foretold 112 = .ok (.getfield 7, 3) := by decide +kernel
theorem dX10_foretold_115 : decode cX10_foretold 115 = .ok (.bipush 35, 2) := by decide +kernel
theorem dX10_foretold_117 : decode cX10_foretold 117 = .ok (.iload_n 3, 1) := by decide +kernel
theorem dX10_foretold_118 : decode cX10_foretold 118 = .ok (.iadd, 1) := by decide +kernel
theorem dX10_foretold_119 : decode cX10_foretold 119 = .ok (.iaload, 1) := by decide +kernel
theorem dX10_foretold_120 : decode cX10_foretold 120 = .ok (.goto 7, 3) := by decide +kernel
theorem dX10_foretold_123 : decode cX10_foretold 123 = .ok (.aload_n 0, 1) := by decide +kernel
theorem dX10_foretold_124 : decode cX10_foretold 124 = .ok (.invokevirtual 362, 3) := by decide +kernel
theorem dX10_foretold_127 : decode cX10_foretold 127 = .ok (.istore 4, 2) := by decide +kernel
theorem dX10_foretold_129 : decode cX10_foretold 129 = .ok (.aload_n 0, 1) := by decide +kernel
theorem dX10_foretold_130 : decode cX10_foretold 130 = .ok (.invokevirtual 375, 3) := by decide +kernel
theorem dX10_foretold_133 : decode cX10_foretold 133 = .ok (.iload 4, 2) := by decide +kernel
theorem dX10_foretold_135 : decode cX10_foretold 135 = .ok (.ireturn, 1) := by decide +kernel
theorem dX10_mostOf_0 : decode cX10_mostOf 0 = .ok (.iconst 0, 1) := by decide +kernel
theorem dX10_mostOf_1 : decode cX10_mostOf 1 = .ok (.istore_n 3, 1) := by decide +kernel
theorem dX10_mostOf_2 : decode cX10_mostOf 2 = .ok (.iload_n 1, 1) := by decide +kernel
theorem dX10_mostOf_3 : decode cX10_mostOf 3 = .ok (.istore 4, 2) := by decide +kernel
theorem dX10_mostOf_5 : decode cX10_mostOf 5 = .ok (.iload 4, 2) := by decide +kernel
theorem dX10_mostOf_7 : decode cX10_mostOf 7 = .ok (.iload_n 1, 1) := by decide +kernel
theorem dX10_mostOf_8 : decode cX10_mostOf 8 = .ok (.iload_n 2, 1) := by decide +kernel
theorem dX10_mostOf_9 : decode cX10_mostOf 9 = .ok (.iadd, 1) := by decide +kernel
theorem dX10_mostOf_10 : decode cX10_mostOf 10 = .ok (.if_icmp .ge 38, 3) := by decide +kernel
theorem dX10_mostOf_13 : decode cX10_mostOf 13 = .ok (.aload_n 0, 1) := by decide +kernel
theorem dX10_mostOf_14 : decode cX10_mostOf 14 = .ok (.getfield 7, 3) := by decide +kernel
theorem dX10_mostOf_17 : decode cX10_mostOf 17 = .ok (.bipush 11, 2) := by decide +kernel
theorem dX10_mostOf_19 : decode cX10_mostOf 19 = .ok (.iload 4, 2) := by decide +kernel
theorem dX10_mostOf_21 : decode cX10_mostOf 21 = .ok (.iadd, 1) := by decide +kernel
theorem dX10_mostOf_22 : decode cX10_mostOf 22 = .ok (.iaload, 1) := by decide +kernel
theorem dX10_mostOf_23 : decode cX10_mostOf 23 = .ok (.iload_n 3, 1) := by decide +kernel
theorem dX10_mostOf_24 : decode cX10_mostOf 24 = .ok (.if_icmp .le 16, 3) := by decide +kernel
theorem dX10_mostOf_27 : decode cX10_mostOf 27 = .ok (.aload_n 0, 1) := by decide +kernel
theorem dX10_mostOf_28 : decode cX10_mostOf 28 = .ok (.getfield 7, 3) := by decide +kernel
theorem dX10_mostOf_31 : decode cX10_mostOf 31 = .ok (.bipush 11, 2) := by decide +kernel
theorem dX10_mostOf_33 : decode cX10_mostOf 33 = .ok (.iload 4, 2) := by decide +kernel
theorem dX10_mostOf_35 : decode cX10_mostOf 35 = .ok (.iadd, 1) := by decide +kernel
theorem dX10_mostOf_36 : decode cX10_mostOf 36 = .ok (.iaload, 1) := by decide +kernel
theorem dX10_mostOf_37 : decode cX10_mostOf 37 = .ok (.goto 4, 3) := by decide +kernel
theorem dX10_mostOf_40 : decode cX10_mostOf 40 = .ok (.iload_n 3, 1) := by decide +kernel
theorem dX10_mostOf_41 : decode cX10_mostOf 41 = .ok (.istore_n 3, 1) := by decide +kernel
theorem dX10_mostOf_42 : decode cX10_mostOf 42 = .ok (.iinc 4 1, 3) := by decide +kernel
theorem dX10_mostOf_45 : decode cX10_mostOf 45 = .ok (.goto (-40), 3) := by decide +kernel
theorem dX10_mostOf_48 : decode cX10_mostOf 48 = .ok (.iload_n 3, 1) := by decide +kernel
theorem dX10_mostOf_49 : decode cX10_mostOf 49 = .ok (.ireturn, 1) := by decide +kernel
theorem dX10_leastOf_0 : decode cX10_leastOf 0 = .ok (.ldc_w 371, 3) := by decide +kernel
theorem dX10_leastOf_3 : decode cX10_leastOf 3 = .ok (.istore_n 3, 1) := by decide +kernel
theorem dX10_leastOf_4 : decode cX10_leastOf 4 = .ok (.iload_n 1, 1) := by decide +kernel
theorem dX10_leastOf_5 : decode cX10_leastOf 5 = .ok (.istore 4, 2) := by decide +kernel
theorem dX10_leastOf_7 : decode cX10_leastOf 7 = .ok (.iload 4, 2) := by decide +kernel
theorem dX10_leastOf_9 : decode cX10_leastOf 9 = .ok (.iload_n 1, 1) := by decide +kernel
theorem dX10_leastOf_10 : decode cX10_leastOf 10 = .ok (.iload_n 2, 1) := by decide +kernel
theorem dX10_leastOf_11 : decode cX10_leastOf 11 = .ok (.iadd, 1) := by decide +kernel
theorem dX10_leastOf_12 : decode cX10_leastOf 12 = .ok (.if_icmp .ge 38, 3) := by decide +kernel
theorem dX10_leastOf_15 : decode cX10_leastOf 15 = .ok (.aload_n 0, 1) := by decide +kernel
theorem dX10_leastOf_16 : decode cX10_leastOf 16 = .ok (.getfield 7, 3) := by decide +kernel
theorem dX10_leastOf_19 : decode cX10_leastOf 19 = .ok (.bipush 11, 2) := by decide +kernel
theorem dX10_leastOf_21 : decode cX10_leastOf 21 = .ok (.iload 4, 2) := by decide +kernel
theorem dX10_leastOf_23 : decode cX10_leastOf 23 = .ok (.iadd, 1) := by decide +kernel
theorem dX10_leastOf_24 : decode cX10_leastOf 24 = .ok (.iaload, 1) := by decide +kernel
theorem dX10_leastOf_25 : decode cX10_leastOf 25 = .ok (.iload_n 3, 1) := by decide +kernel
theorem dX10_leastOf_26 : decode cX10_leastOf 26 = .ok (.if_icmp .ge 16, 3) := by decide +kernel
theorem dX10_leastOf_29 : decode cX10_leastOf 29 = .ok (.aload_n 0, 1) := by decide +kernel
theorem dX10_leastOf_30 : decode cX10_leastOf 30 = .ok (.getfield 7, 3) := by decide +kernel
theorem dX10_leastOf_33 : decode cX10_leastOf 33 = .ok (.bipush 11, 2) := by decide +kernel
theorem dX10_leastOf_35 : decode cX10_leastOf 35 = .ok (.iload 4, 2) := by decide +kernel
theorem dX10_leastOf_37 : decode cX10_leastOf 37 = .ok (.iadd, 1) := by decide +kernel
theorem dX10_leastOf_38 : decode cX10_leastOf 38 = .ok (.iaload, 1) := by decide +kernel
theorem dX10_leastOf_39 : decode cX10_leastOf 39 = .ok (.goto 4, 3) := by decide +kernel
theorem dX10_leastOf_42 : decode cX10_leastOf 42 = .ok (.iload_n 3, 1) := by decide +kernel
theorem dX10_leastOf_43 : decode cX10_leastOf 43 = .ok (.istore_n 3, 1) := by decide +kernel
theorem dX10_leastOf_44 : decode cX10_leastOf 44 = .ok (.iinc 4 1, 3) := by decide +kernel
theorem dX10_leastOf_47 : decode cX10_leastOf 47 = .ok (.goto (-40), 3) := by decide +kernel
theorem dX10_leastOf_50 : decode cX10_leastOf 50 = .ok (.iload_n 3, 1) := by decide +kernel
theorem dX10_leastOf_51 : decode cX10_leastOf 51 = .ok (.ireturn, 1) := by decide +kernel
theorem dX10_lake_0 : decode cX10_lake 0 = .ok (.iconst 0, 1) := by decide +kernel
theorem dX10_lake_1 : decode cX10_lake 1 = .ok (.istore_n 1, 1) := by decide +kernel
theorem dX10_lake_2 : decode cX10_lake 2 = .ok (.iconst 0, 1) := by decide +kernel
theorem dX10_lake_3 : decode cX10_lake 3 = .ok (.istore_n 2, 1) := by decide +kernel
theorem dX10_lake_4 : decode cX10_lake 4 = .ok (.iload_n 2, 1) := by decide +kernel
theorem dX10_lake_5 : decode cX10_lake 5 = .ok (.bipush 12, 2) := by decide +kernel
theorem dX10_lake_7 : decode cX10_lake 7 = .ok (.if_icmp .ge 54, 3) := by decide +kernel
theorem dX10_lake_10 : decode cX10_lake 10 = .ok (.aload_n 0, 1) := by decide +kernel
theorem dX10_lake_11 : decode cX10_lake 11 = .ok (.iconst 0, 1) := by decide +kernel
theorem dX10_lake_12 : decode cX10_lake 12 = .ok (.iload_n 2, 1) := by decide +kernel
theorem dX10_lake_13 : decode cX10_lake 13 = .ok (.iconst 1, 1) := by decide +kernel
theorem dX10_lake_14 : decode cX10_lake 14 = .ok (.iadd, 1) := by decide +kernel
theorem dX10_lake_15 : decode cX10_lake 15 = .ok (.invokevirtual 378, 3) := by decide +kernel
theorem dX10_lake_18 : decode cX10_lake 18 = .ok (.istore_n 3, 1) := by decide +kernel
theorem dX10_lake_19 : decode cX10_lake 19 = .ok (.aload_n 0, 1) := by decide +kernel
theorem dX10_lake_20 : decode cX10_lake 20 = .ok (.iload_n 2, 1) := by decide +kernel
theorem dX10_lake_21 : decode cX10_lake 21 = .ok (.bipush 12, 2) := by decide +kernel
theorem dX10_lake_23 : decode cX10_lake 23 = .ok (.iload_n 2, 1) := by decide +kernel
theorem dX10_lake_24 : decode cX10_lake 24 = .ok (.isub, 1) := by decide +kernel
theorem dX10_lake_25 : decode cX10_lake 25 = .ok (.invokevirtual 378, 3) := by decide +kernel
theorem dX10_lake_28 : decode cX10_lake 28 = .ok (.istore 4, 2) := by decide +kernel
theorem dX10_lake_30 : decode cX10_lake 30 = .ok (.iload_n 1, 1) := by decide +kernel
theorem dX10_lake_31 : decode cX10_lake 31 = .ok (.iload_n 3, 1) := by decide +kernel
theorem dX10_lake_32 : decode cX10_lake 32 = .ok (.iload 4, 2) := by decide +kernel
theorem dX10_lake_34 : decode cX10_lake 34 = .ok (.if_icmp .ge 7, 3) := by decide +kernel
theorem dX10_lake_37 : decode cX10_lake 37 = .ok (.iload_n 3, 1) := by decide +kernel
theorem dX10_lake_38 : decode cX10_lake 38 = .ok (.goto 5, 3) := by decide +kernel
theorem dX10_lake_41 : decode cX10_lake 41 = .ok (.iload 4, 2) := by decide +kernel
theorem dX10_lake_43 : decode cX10_lake 43 = .ok (.aload_n 0, 1) := by decide +kernel
theorem dX10_lake_44 : decode cX10_lake 44 = .ok (.getfield 7, 3) := by decide +kernel
theorem dX10_lake_47 : decode cX10_lake 47 = .ok (.bipush 11, 2) := by decide +kernel
theorem dX10_lake_49 : decode cX10_lake 49 = .ok (.iload_n 2, 1) := by decide +kernel
theorem dX10_lake_50 : decode cX10_lake 50 = .ok (.iadd, 1) := by decide +kernel
theorem dX10_lake_51 : decode cX10_lake 51 = .ok (.iaload, 1) := by decide +kernel
theorem dX10_lake_52 : decode cX10_lake 52 = .ok (.isub, 1) := by decide +kernel
theorem dX10_lake_53 : decode cX10_lake 53 = .ok (.iadd, 1) := by decide +kernel
theorem dX10_lake_54 : decode cX10_lake 54 = .ok (.istore_n 1, 1) := by decide +kernel
theorem dX10_lake_55 : decode cX10_lake 55 = .ok (.iinc 2 1, 3) := by decide +kernel
theorem dX10_lake_58 : decode cX10_lake 58 = .ok (.goto (-54), 3) := by decide +kernel
theorem dX10_lake_61 : decode cX10_lake 61 = .ok (.iload_n 1, 1) := by decide +kernel
theorem dX10_lake_62 : decode cX10_lake 62 = .ok (.ireturn, 1) := by decide +kernel
theorem dX10_glaze_0 : decode cX10_glaze 0 = .ok (.iconst 0, 1) := by decide +kernel
theorem dX10_glaze_1 : decode cX10_glaze 1 = .ok (.istore_n 2, 1) := by decide +kernel
theorem dX10_glaze_2 : decode cX10_glaze 2 = .ok (.iconst 0, 1) := by decide +kernel
theorem dX10_glaze_3 : decode cX10_glaze 3 = .ok (.istore_n 3, 1) := by decide +kernel
theorem dX10_glaze_4 : decode cX10_glaze 4 = .ok (.iconst 1, 1) := by decide +kernel
theorem dX10_glaze_5 : decode cX10_glaze 5 = .ok (.istore 4, 2) := by decide +kernel
theorem dX10_glaze_7 : decode cX10_glaze 7 = .ok (.iconst 0, 1) := by decide +kernel
theorem dX10_glaze_8 : decode cX10_glaze 8 = .ok (.istore 5, 2) := by decide +kernel
theorem dX10_glaze_10 : decode cX10_glaze 10 = .ok (.iload 5, 2) := by decide +kernel
theorem dX10_glaze_12 : decode cX10_glaze 12 = .ok (.bipush 12, 2) := by decide +kernel
theorem dX10_glaze_14 : decode cX10_glaze 14 = .ok (.if_icmp .ge 65, 3) := by decide +kernel
theorem dX10_glaze_17 : decode cX10_glaze 17 = .ok (.iconst 1, 1) := by decide +kernel
theorem dX10_glaze_18 : decode cX10_glaze 18 = .ok (.istore 6, 2) := by decide +kernel
theorem dX10_glaze_20 : decode cX10_glaze 20 = .ok (.iload 5, 2) := by decide +kernel
theorem dX10_glaze_22 : decode cX10_glaze 22 = .ok (.iload 6, 2) := by decide +kernel
theorem dX10_glaze_24 : decode cX10_glaze 24 = .ok (.iadd, 1) := by decide +kernel
theorem dX10_glaze_25 : decode cX10_glaze 25 = .ok (.bipush 12, 2) := by decide +kernel
theorem dX10_glaze_27 : decode cX10_glaze 27 = .ok (.if_icmp .gt 46, 3) := by decide +kernel
theorem dX10_glaze_30 : decode cX10_glaze 30 = .ok (.iload 6, 2) := by decide +kernel
theorem dX10_glaze_32 : decode cX10_glaze 32 = .ok (.aload_n 0, 1) := by decide +kernel
theorem dX10_glaze_33 : decode cX10_glaze 33 = .ok (.iload 5, 2) := by decide +kernel
theorem dX10_glaze_35 : decode cX10_glaze 35 = .ok (.iload 6, 2) := by decide +kernel
theorem dX10_glaze_37 : decode cX10_glaze 37 = .ok (.invokevirtual 381, 3) := by decide +kernel
theorem dX10_glaze_40 : decode cX10_glaze 40 = .ok (.imul, 1) := by decide +kernel
theorem dX10_glaze_41 : decode cX10_glaze 41 = .ok (.iload_n 2, 1) := by decide +kernel
theorem dX10_glaze_42 : decode cX10_glaze 42 = .ok (.if_icmp .gt 6, 3) := by decide +kernel
theorem dX10_glaze_45 : decode cX10_glaze 45 = .ok (.goto 22, 3) := by decide +kernel
theorem dX10_glaze_48 : decode cX10_glaze 48 = .ok (.iload 6, 2) := by decide +kernel
theorem dX10_glaze_50 : decode cX10_glaze 50 = .ok (.aload_n 0, 1) := by decide +kernel
theorem dX10_glaze_51 : decode cX10_glaze 51 = .ok (.iload 5, 2) := by decide +kernel
theorem dX10_glaze_53 : decode cX10_glaze 53 = .ok (.iload 6, 2) := by decide +kernel
theorem dX10_glaze_55 : decode cX10_glaze 55 = .ok (.invokevirtual 381, 3) := by decide +kernel
theorem dX10_glaze_58 : decode cX10_glaze 58 = .ok (.imul, 1) := by decide +kernel
theorem dX10_glaze_59 : decode cX10_glaze 59 = .ok (.istore_n 2, 1) := by decide +kernel
theorem dX10_glaze_60 : decode cX10_glaze 60 = .ok (.iload 5, 2) := by decide +kernel
theorem dX10_glaze_62 : decode cX10_glaze 62 = .ok (.istore_n 3, 1) := by decide +kernel
theorem dX10_glaze_63 : decode cX10_glaze 63 = .ok (.iload 6, 2) := by decide +kernel
theorem dX10_glaze_65 : decode cX10_glaze 65 = .ok (.istore 4, 2) := by decide +kernel
theorem dX10_glaze_67 : decode cX10_glaze 67 = .ok (.iinc 6 1, 3) := by decide +kernel
theorem dX10_glaze_70 : decode cX10_glaze 70 = .ok (.goto (-50), 3) := by decide +kernel
theorem dX10_glaze_73 : decode cX10_glaze 73 = .ok (.iinc 5 1, 3) := by decide +kernel
theorem dX10_glaze_76 : decode cX10_glaze 76 = .ok (.goto (-66), 3) := by decide +kernel
theorem dX10_glaze_79 : decode cX10_glaze 79 = .ok (.iload_n 1, 1) := by decide +kernel
theorem dX10_glaze_80 : decode cX10_glaze 80 = .ok (.ifCond .ne 7, 3) := by decide +kernel
theorem dX10_glaze_83 : decode cX10_glaze 83 = .ok (.iload_n 2, 1) := by decide +kernel
theorem dX10_glaze_84 : decode cX10_glaze 84 = .ok (.goto 23, 3) := by decide +kernel
theorem dX10_glaze_87 : decode cX10_glaze 87 = .ok (.iload_n 1, 1) := by decide +kernel
theorem dX10_glaze_88 : decode cX10_glaze 88 = .ok (.iconst 1, 1) := by decide +kernel
theorem dX10_glaze_89 : decode cX10_glaze 89 = .ok (.if_icmp .ne 7, 3) := by decide +kernel
theorem dX10_glaze_92 : decode cX10_glaze 92 = .ok (.iload_n 3, 1) := by decide +kernel
theorem dX10_glaze_93 : decode cX10_glaze 93 = .ok (.goto 14, 3) := by decide +kernel
theorem dX10_glaze_96 : decode cX10_glaze 96 = .ok (.iload_n 1, 1) := by decide +kernel
theorem dX10_glaze_97 : decode cX10_glaze 97 = .ok (.iconst 2, 1) := by decide +kernel
theorem dX10_glaze_98 : decode cX10_glaze 98 = .ok (.if_icmp .ne 8, 3) := by decide +kernel
theorem dX10_glaze_101 : decode cX10_glaze 101 = .ok (.iload 4, 2) := by decide +kernel
theorem dX10_glaze_103 : decode cX10_glaze 103 = .ok (.goto 4, 3) := by decide +kernel
theorem dX10_glaze_106 : decode cX10_glaze 106 = .ok (.iconst (-1), 1) := by decide +kernel
theorem dX10_glaze_107 : decode cX10_glaze 107 = .ok (.ireturn, 1) := by decide +kernel
theorem dX10_rise_0 : decode cX10_rise 0 = .ok (.iconst 0, 1) := by decide +kernel
theorem dX10_rise_1 : decode cX10_rise 1 = .ok (.istore_n 2, 1) := by decide +kernel
theorem dX10_rise_2 : decode cX10_rise 2 = .ok (.bipush 11, 2) := by decide +kernel
theorem dX10_rise_4 : decode cX10_rise 4 = .ok (.istore_n 3, 1) := by decide +kernel
theorem dX10_rise_5 : decode cX10_rise 5 = .ok (.iload_n 3, 1) := by decide +kernel
theorem dX10_rise_6 : decode cX10_rise 6 = .ok (.ifCond .lt 108, 3) := by decide +kernel
theorem dX10_rise_9 : decode cX10_rise 9 = .ok (.aload_n 0, 1) := by decide +kernel
theorem dX10_rise_10 : decode cX10_rise 10 = .ok (.getfield 50, 3) := by decide +kernel
theorem dX10_rise_13 : decode cX10_rise 13 = .ok (.iload_n 3, 1) := by decide +kernel
theorem dX10_rise_14 : decode cX10_rise 14 = .ok (.iconst 1, 1) := by decide +kernel
theorem dX10_rise_15 : decode cX10_rise 15 = .ok (.iastore, 1) := by decide +kernel
theorem dX10_rise_16 : decode cX10_rise 16 = .ok (.iload_n 3, 1) := by decide +kernel
theorem dX10_rise_17 : decode cX10_rise 17 = .ok (.iconst 1, 1) := by decide +kernel
theorem dX10_rise_18 : decode cX10_rise 18 = .ok (.iadd, 1) := by decide +kernel
theorem dX10_rise_19 : decode cX10_rise 19 = .ok (.istore 4, 2) := by decide +kernel
theorem dX10_rise_21 : decode cX10_rise 21 = .ok (.iload 4, 2) := by decide +kernel
theorem dX10_rise_23 : decode cX10_rise 23 = .ok (.bipush 12, 2) := by decide +kernel
theorem dX10_rise_25 : decode cX10_rise 25 = .ok (.if_icmp .ge 62, 3) := by decide +kernel
theorem dX10_rise_28 : decode cX10_rise 28 = .ok (.aload_n 0, 1) := by decide +kernel
theorem dX10_rise_29 : decode cX10_rise 29 = .ok (.getfield 7, 3) := by decide +kernel
theorem dX10_rise_32 : decode cX10_rise 32 = .ok (.bipush 11, 2) := by decide +kernel
theorem dX10_rise_34 : decode cX10_rise 34 = .ok (.iload 4, 2) := by decide +kernel
theorem dX10_rise_36 : decode cX10_rise 36 = .ok (.iadd, 1) := by decide +kernel
theorem dX10_rise_37 : decode cX10_rise 37 = .ok (.iaload, 1) := by decide +kernel
theorem dX10_rise_38 : decode cX10_rise 38 = .ok (.aload_n 0, 1) := by decide +kernel
theorem dX10_rise_39 : decode cX10_rise 39 = .ok (.getfield 7, 3) := by decide +kernel
theorem dX10_rise_42 : decode cX10_rise 42 = .ok (.bipush 11, 2) := by decide +kernel
theorem dX10_rise_44 : decode cX10_rise 44 = .ok (.iload_n 3, 1) := by decide +kernel
theorem dX10_rise_45 : decode cX10_rise 45 = .ok (.iadd, 1) := by decide +kernel
theorem dX10_rise_46 : decode cX10_rise 46 = .ok (.iaload, 1) := by decide +kernel
theorem dX10_rise_47 : decode cX10_rise 47 = .ok (.if_icmp .le 34, 3) := by decide +kernel
theorem dX10_rise_50 : decode cX10_rise 50 = .ok (.aload_n 0, 1) := by decide +kernel
theorem dX10_rise_51 : decode cX10_rise 51 = .ok (.getfield 50, 3) := by decide +kernel
theorem dX10_rise_54 : decode cX10_rise 54 = .ok (.iload 4, 2) := by decide +kernel
theorem dX10_rise_56 : decode cX10_rise 56 = .ok (.iaload, 1) := by decide +kernel
theorem dX10_rise_57 : decode cX10_rise 57 = .ok (.aload_n 0, 1) := by decide +kernel
theorem dX10_rise_58 : decode cX10_rise 58 = .ok (.getfield 50, 3) := by decide +kernel
theorem dX10_rise_61 : decode cX10_rise 61 = .ok (.iload_n 3, 1) := by decide +kernel
theorem dX10_rise_62 : decode cX10_rise 62 = .ok (.iaload, 1) := by decide +kernel
theorem dX10_rise_63 : decode cX10_rise 63 = .ok (.if_icmp .lt 18, 3) := by decide +kernel
theorem dX10_rise_66 : decode cX10_rise 66 = .ok (.aload_n 0, 1) := by decide +kernel
theorem dX10_rise_67 : decode cX10_rise 67 = .ok (.getfield 50, 3) := by decide +kernel
theorem dX10_rise_70 : decode cX10_rise 70 = .ok (.iload_n 3, 1) := by decide +kernel
theorem dX10_rise_71 : decode cX10_rise 71 = .ok (.aload_n 0, 1) := by decide +kernel
theorem dX10_rise_72 : decode cX10_rise 72 = .ok (.getfield 50, 3) := by decide +kernel
theorem dX10_rise_75 : decode cX10_rise 75 = .ok (.iload 4, 2) := by decide +kernel
theorem dX10_rise_77 : decode cX10_rise 77 = .ok (.iaload, 1) := by decide +kernel
theorem dX10_rise_78 : decode cX10_rise 78 = .ok (.iconst 1, 1) := by decide +kernel
theorem dX10_rise_79 : decode cX10_rise 79 = .ok (.iadd, 1) := by decide +kernel
theorem dX10_rise_80 : decode cX10_rise 80 = .ok (.iastore, 1) := by decide +kernel
theorem dX10_rise_81 : decode cX10_rise 81 = .ok (.iinc 4 1, 3) := by decide +kernel
theorem dX10_rise_84 : decode cX10_rise 84 = .ok (.goto (-63), 3) := by decide +kernel
theorem dX10_rise_87 : decode cX10_rise 87 = .ok (.aload_n 0, 1) := by decide +kernel
theorem dX10_rise_88 : decode cX10_rise 88 = .ok (.getfield 50, 3) := by decide +kernel
theorem dX10_rise_91 : decode cX10_rise 91 = .ok (.iload_n 3, 1) := by decide +kernel
theorem dX10_rise_92 : decode cX10_rise 92 = .ok (.iaload, 1) := by decide +kernel
theorem dX10_rise_93 : decode cX10_rise 93 = .ok (.iload_n 2, 1) := by decide +kernel
theorem dX10_rise_94 : decode cX10_rise 94 = .ok (.if_icmp .le 12, 3) := by decide +kernel
theorem dX10_rise_97 : decode cX10_rise 97 = .ok (.aload_n 0, 1) := by decide +kernel
theorem dX10_rise_98 : decode cX10_rise 98 = .ok (.getfield 50, 3) := by decide +kernel
theorem dX10_rise_101 : decode cX10_rise 101 = .ok (.iload_n 3, 1) := by decide +kernel
theorem dX10_rise_102 : decode cX10_rise 102 = .ok (.iaload, 1) := by decide +kernel
theorem dX10_rise_103 : decode cX10_rise 103 = .ok (.goto 4, 3) := by decide +kernel
theorem dX10_rise_106 : decode cX10_rise 106 = .ok (.iload_n 2, 1) := by decide +kernel
theorem dX10_rise_107 : decode cX10_rise 107 = .ok (.istore_n 2, 1) := by decide +kernel
theorem dX10_rise_108 : decode cX10_rise 108 = .ok (.iinc 3 (-1), 3) := by decide +kernel
theorem dX10_rise_111 : decode cX10_rise 111 = .ok (.goto (-106), 3) := by decide +kernel
theorem dX10_rise_114 : decode cX10_rise 114 = .ok (.iload_n 1, 1) := by decide +kernel
theorem dX10_rise_115 : decode cX10_rise 115 = .ok (.iconst (-1), 1) := by decide +kernel
theorem dX10_rise_116 : decode cX10_rise 116 = .ok (.if_icmp .ne 5, 3) := by decide +kernel
theorem dX10_rise_119 : decode cX10_rise 119 = .ok (.iload_n 2, 1) := by decide +kernel
theorem dX10_rise_120 : decode cX10_rise 120 = .ok (.ireturn, 1) := by decide +kernel
theorem dX10_rise_121 : decode cX10_rise 121 = .ok (.iload_n 1, 1) := by decide +kernel
theorem dX10_rise_122 : decode cX10_rise 122 = .ok (.iconst 0, 1) := by decide +kernel
theorem dX10_rise_123 : decode cX10_rise 123 = .ok (.iload_n 2, 1) := by decide +kernel
theorem dX10_rise_124 : decode cX10_rise 124 = .ok (.iconst 1, 1) := by decide +kernel
theorem dX10_rise_125 : decode cX10_rise 125 = .ok (.isub, 1) := by decide +kernel
theorem dX10_rise_126 : decode cX10_rise 126 = .ok (.invokestatic 63, 3) := by decide +kernel
theorem dX10_rise_129 : decode cX10_rise 129 = .ok (.ifCond .ne 6, 3) := by decide +kernel
theorem dX10_rise_132 : decode cX10_rise 132 = .ok (.bipush (-2), 2) := by decide +kernel
