theorem dX10_behindOne_11 : decode cX10_behindOne 11 = .ok (.invokestatic 139, 3) := by decide +kernel
theorem dX10_behindOne_14 : decode cX10_behindOne 14 = .ok (.iconst 4, 1) := by decide +kernel
theorem dX10_behindOne_15 : decode cX10_behindOne 15 = .ok (.if_icmp .ne 7, 3) := by decide +kernel
theorem dX10_behindOne_18 : decode cX10_behindOne 18 = .ok (.iconst 5, 1) := by decide +kernel
theorem dX10_behindOne_19 : decode cX10_behindOne 19 = .ok (.goto 7, 3) := by decide +kernel
theorem dX10_behindOne_22 : decode cX10_behindOne 22 = .ok (.iload_n 1, 1) := by decide +kernel
theorem dX10_behindOne_23 : decode cX10_behindOne 23 = .ok (.invokestatic 139, 3) := by decide +kernel
theorem dX10_behindOne_26 : decode cX10_behindOne 26 = .ok (.invokevirtual 168, 3) := by decide +kernel
theorem dX10_behindOne_29 : decode cX10_behindOne 29 = .ok (.aload_n 0, 1) := by decide +kernel
theorem dX10_behindOne_30 : decode cX10_behindOne 30 = .ok (.getfield 29, 3) := by decide +kernel
theorem dX10_behindOne_33 : decode cX10_behindOne 33 = .ok (.aload_n 0, 1) := by decide +kernel
theorem dX10_behindOne_34 : decode cX10_behindOne 34 = .ok (.getfield 136, 3) := by decide +kernel
theorem dX10_behindOne_37 : decode cX10_behindOne 37 = .ok (.iload_n 1, 1) := by decide +kernel
theorem dX10_behindOne_38 : decode cX10_behindOne 38 = .ok (.iastore, 1) := by decide +kernel
theorem dX10_behindOne_39 : decode cX10_behindOne 39 = .ok (.aload_n 0, 1) := by decide +kernel
theorem dX10_behindOne_40 : decode cX10_behindOne 40 = .ok (.dup, 1) := by decide +kernel
theorem dX10_behindOne_41 : decode cX10_behindOne 41 = .ok (.getfield 136, 3) := by decide +kernel
theorem dX10_behindOne_44 : decode cX10_behindOne 44 = .ok (.iconst 1, 1) := by decide +kernel
theorem dX10_behindOne_45 : decode cX10_behindOne 45 = .ok (.iadd, 1) := by decide +kernel
theorem dX10_behindOne_46 : decode cX10_behindOne 46 = .ok (.putfield 136, 3) := by decide +kernel
theorem dX10_behindOne_49 : decode cX10_behindOne 49 = .ok (.aload_n 0, 1) := by decide +kernel
theorem dX10_behindOne_50 : decode cX10_behindOne 50 = .ok (.iconst 0, 1) := by decide +kernel
theorem dX10_behindOne_51 : decode cX10_behindOne 51 = .ok (.putfield 165, 3) := by decide +kernel
theorem dX10_behindOne_54 : decode cX10_behindOne 54 = .ok (.aload_n 0, 1) := by decide +kernel
theorem dX10_behindOne_55 : decode cX10_behindOne 55 = .ok (.invokevirtual 156, 3) := by decide +kernel
theorem dX10_behindOne_58 : decode cX10_behindOne 58 = .ok (.iconst 1, 1) := by decide +kernel
theorem dX10_behindOne_59 : decode cX10_behindOne 59 = .ok (.ireturn, 1) := by decide +kernel
theorem dX10_behindOne_60 : decode cX10_behindOne 60 = .ok (.aload_n 0, 1) := by decide +kernel
theorem dX10_behindOne_61 : decode cX10_behindOne 61 = .ok (.invokevirtual 153, 3) := by decide +kernel
theorem dX10_behindOne_64 : decode cX10_behindOne 64 = .ok (.istore_n 2, 1) := by decide +kernel
theorem dX10_behindOne_65 : decode cX10_behindOne 65 = .ok (.aload_n 0, 1) := by decide +kernel
theorem dX10_behindOne_66 : decode cX10_behindOne 66 = .ok (.iload_n 2, 1) := by decide +kernel
theorem dX10_behindOne_67 : decode cX10_behindOne 67 = .ok (.invokevirtual 194, 3) := by decide +kernel
theorem dX10_behindOne_70 : decode cX10_behindOne 70 = .ok (.istore_n 3, 1) := by decide +kernel
theorem dX10_behindOne_71 : decode cX10_behindOne 71 = .ok (.iload_n 3, 1) := by decide +kernel
theorem dX10_behindOne_72 : decode cX10_behindOne 72 = .ok (.ifCond .ge 5, 3) := by decide +kernel
theorem dX10_behindOne_75 : decode cX10_behindOne 75 = .ok (.iconst 0, 1) := by decide +kernel
theorem dX10_behindOne_76 : decode cX10_behindOne 76 = .ok (.ireturn, 1) := by decide +kernel
theorem dX10_behindOne_77 : decode cX10_behindOne 77 = .ok (.aload_n 0, 1) := by decide +kernel
theorem dX10_behindOne_78 : decode cX10_behindOne 78 = .ok (.iconst 1, 1) := by decide +kernel
theorem dX10_behindOne_79 : decode cX10_behindOne 79 = .ok (.invokevirtual 168, 3) := by decide +kernel
theorem dX10_behindOne_82 : decode cX10_behindOne 82 = .ok (.aload_n 0, 1) := by decide +kernel
theorem dX10_behindOne_83 : decode cX10_behindOne 83 = .ok (.invokevirtual 156, 3) := by decide +kernel
theorem dX10_behindOne_86 : decode cX10_behindOne 86 = .ok (.iload_n 3, 1) := by decide +kernel
theorem dX10_behindOne_87 : decode cX10_behindOne 87 = .ok (.ifCond .le 20, 3) := by decide +kernel
theorem dX10_behindOne_90 : decode cX10_behindOne 90 = .ok (.aload_n 0, 1) := by decide +kernel
theorem dX10_behindOne_91 : decode cX10_behindOne 91 = .ok (.getfield 29, 3) := by decide +kernel
theorem dX10_behindOne_94 : decode cX10_behindOne 94 = .ok (.aload_n 0, 1) := by decide +kernel
theorem dX10_behindOne_95 : decode cX10_behindOne 95 = .ok (.invokevirtual 149, 3) := by decide +kernel
theorem dX10_behindOne_98 : decode cX10_behindOne 98 = .ok (.iload_n 3, 1) := by decide +kernel
theorem dX10_behindOne_99 : decode cX10_behindOne 99 = .ok (.iastore, 1) := by decide +kernel
theorem dX10_behindOne_100 : decode cX10_behindOne 100 = .ok (.aload_n 0, 1) := by decide +kernel
theorem dX10_behindOne_101 : decode cX10_behindOne 101 = .ok (.iconst 0, 1) := by decide +kernel
theorem dX10_behindOne_102 : decode cX10_behindOne 102 = .ok (.putfield 165, 3) := by decide +kernel
theorem dX10_behindOne_105 : decode cX10_behindOne 105 = .ok (.iconst 1, 1) := by decide +kernel
theorem dX10_behindOne_106 : decode cX10_behindOne 106 = .ok (.ireturn, 1) := by decide +kernel
theorem dX10_behindOne_107 : decode cX10_behindOne 107 = .ok (.aload_n 0, 1) := by decide +kernel
theorem dX10_behindOne_108 : decode cX10_behindOne 108 = .ok (.dup, 1) := by decide +kernel
theorem dX10_behindOne_109 : decode cX10_behindOne 109 = .ok (.getfield 146, 3) := by decide +kernel
theorem dX10_behindOne_112 : decode cX10_behindOne 112 = .ok (.iconst 1, 1) := by decide +kernel
theorem dX10_behindOne_113 : decode cX10_behindOne 113 = .ok (.isub, 1) := by decide +kernel
theorem dX10_behindOne_114 : decode cX10_behindOne 114 = .ok (.putfield 146, 3) := by decide +kernel
theorem dX10_behindOne_117 : decode cX10_behindOne 117 = .ok (.aload_n 0, 1) := by decide +kernel
theorem dX10_behindOne_118 : decode cX10_behindOne 118 = .ok (.dup, 1) := by decide +kernel
theorem dX10_behindOne_119 : decode cX10_behindOne 119 = .ok (.getfield 136, 3) := by decide +kernel
theorem dX10_behindOne_122 : decode cX10_behindOne 122 = .ok (.iconst 1, 1) := by decide +kernel
theorem dX10_behindOne_123 : decode cX10_behindOne 123 = .ok (.isub, 1) := by decide +kernel
theorem dX10_behindOne_124 : decode cX10_behindOne 124 = .ok (.putfield 136, 3) := by decide +kernel
theorem dX10_behindOne_127 : decode cX10_behindOne 127 = .ok (.iload_n 2, 1) := by decide +kernel
theorem dX10_behindOne_128 : decode cX10_behindOne 128 = .ok (.bipush 43, 2) := by decide +kernel
theorem dX10_behindOne_130 : decode cX10_behindOne 130 = .ok (.if_icmp .ne 9, 3) := by decide +kernel
theorem dX10_behindOne_133 : decode cX10_behindOne 133 = .ok (.aload_n 0, 1) := by decide +kernel
theorem dX10_behindOne_134 : decode cX10_behindOne 134 = .ok (.iconst 3, 1) := by decide +kernel
theorem dX10_behindOne_135 : decode cX10_behindOne 135 = .ok (.iconst 0, 1) := by decide +kernel
theorem dX10_behindOne_136 : decode cX10_behindOne 136 = .ok (.invokevirtual 142, 3) := by decide +kernel
theorem dX10_behindOne_139 : decode cX10_behindOne 139 = .ok (.aload_n 0, 1) := by decide +kernel
theorem dX10_behindOne_140 : decode cX10_behindOne 140 = .ok (.bipush 7, 2) := by decide +kernel
theorem dX10_behindOne_142 : decode cX10_behindOne 142 = .ok (.invokevirtual 168, 3) := by decide +kernel
theorem dX10_behindOne_145 : decode cX10_behindOne 145 = .ok (.iconst 1, 1) := by decide +kernel
theorem dX10_behindOne_146 : decode cX10_behindOne 146 = .ok (.ireturn, 1) := by decide +kernel
theorem dX10_summed_0 : decode cX10_summed 0 = .ok (.aload_n 0, 1) := by decide +kernel
theorem dX10_summed_1 : decode cX10_summed 1 = .ok (.iconst 0, 1) := by decide +kernel
theorem dX10_summed_2 : decode cX10_summed 2 = .ok (.putfield 136, 3) := by decide +kernel
theorem dX10_summed_5 : decode cX10_summed 5 = .ok (.aload_n 0, 1) := by decide +kernel
theorem dX10_summed_6 : decode cX10_summed 6 = .ok (.iconst 0, 1) := by decide +kernel
theorem dX10_summed_7 : decode cX10_summed 7 = .ok (.putfield 146, 3) := by decide +kernel
theorem dX10_summed_10 : decode cX10_summed 10 = .ok (.aload_n 0, 1) := by decide +kernel
theorem dX10_summed_11 : decode cX10_summed 11 = .ok (.iconst 0, 1) := by decide +kernel
theorem dX10_summed_12 : decode cX10_summed 12 = .ok (.putfield 165, 3) := by decide +kernel
theorem dX10_summed_15 : decode cX10_summed 15 = .ok (.aload_n 0, 1) := by decide +kernel
theorem dX10_summed_16 : decode cX10_summed 16 = .ok (.getfield 165, 3) := by decide +kernel
theorem dX10_summed_19 : decode cX10_summed 19 = .ok (.ifCond .eq 29, 3) := by decide +kernel
theorem dX10_summed_22 : decode cX10_summed 22 = .ok (.aload_n 0, 1) := by decide +kernel
theorem dX10_summed_23 : decode cX10_summed 23 = .ok (.invokevirtual 197, 3) := by decide +kernel
theorem dX10_summed_26 : decode cX10_summed 26 = .ok (.ifCond .eq 6, 3) := by decide +kernel
theorem dX10_summed_29 : decode cX10_summed 29 = .ok (.goto (-14), 3) := by decide +kernel
theorem dX10_summed_32 : decode cX10_summed 32 = .ok (.aload_n 0, 1) := by decide +kernel
theorem dX10_summed_33 : decode cX10_summed 33 = .ok (.invokevirtual 153, 3) := by decide +kernel
theorem dX10_summed_36 : decode cX10_summed 36 = .ok (.ifCond .lt 5, 3) := by decide +kernel
theorem dX10_summed_39 : decode cX10_summed 39 = .ok (.iconst 1, 1) := by decide +kernel
theorem dX10_summed_40 : decode cX10_summed 40 = .ok (.ireturn, 1) := by decide +kernel
theorem dX10_summed_41 : decode cX10_summed 41 = .ok (.aload_n 0, 1) := by decide +kernel
theorem dX10_summed_42 : decode cX10_summed 42 = .ok (.iconst 1, 1) := by decide +kernel
theorem dX10_summed_43 : decode cX10_summed 43 = .ok (.invokevirtual 168, 3) := by decide +kernel
theorem dX10_summed_46 : decode cX10_summed 46 = .ok (.iconst 0, 1) := by decide +kernel
theorem dX10_summed_47 : decode cX10_summed 47 = .ok (.ireturn, 1) := by decide +kernel
theorem dX10_summed_48 : decode cX10_summed 48 = .ok (.aload_n 0, 1) := by decide +kernel
theorem dX10_summed_49 : decode cX10_summed 49 = .ok (.invokevirtual 200, 3) := by decide +kernel
theorem dX10_summed_52 : decode cX10_summed 52 = .ok (.istore_n 1, 1) := by decide +kernel
theorem dX10_summed_53 : decode cX10_summed 53 = .ok (.iload_n 1, 1) := by decide +kernel
theorem dX10_summed_54 : decode cX10_summed 54 = .ok (.ifCond .eq 5, 3) := by decide +kernel
theorem dX10_summed_57 : decode cX10_summed 57 = .ok (.iload_n 1, 1) := by decide +kernel
theorem dX10_summed_58 : decode cX10_summed 58 = .ok (.ireturn, 1) := by decide +kernel
theorem dX10_summed_59 : decode cX10_summed 59 = .ok (.goto (-44), 3) := by decide +kernel
theorem dX10_figure_0 : decode cX10_figure 0 = .ok (.aload_n 0, 1) := by decide +kernel
theorem dX10_figure_1 : decode cX10_figure 1 = .ok (.getfield 88, 3) := by decide +kernel
theorem dX10_figure_4 : decode cX10_figure 4 = .ok (.iconst 1, 1) := by decide +kernel
theorem dX10_figure_5 : decode cX10_figure 5 = .ok (.if_icmp .eq 5, 3) := by decide +kernel
theorem dX10_figure_8 : decode cX10_figure 8 = .ok (.iconst 1, 1) := by decide +kernel
theorem dX10_figure_9 : decode cX10_figure 9 = .ok (.ireturn, 1) := by decide +kernel
theorem dX10_figure_10 : decode cX10_figure 10 = .ok (.aload_n 0, 1) := by decide +kernel
theorem dX10_figure_11 : decode cX10_figure 11 = .ok (.getfield 94, 3) := by decide +kernel
theorem dX10_figure_14 : decode cX10_figure 14 = .ok (.iload_n 2, 1) := by decide +kernel
theorem dX10_figure_15 : decode cX10_figure 15 = .ok (.iload_n 3, 1) := by decide +kernel
theorem dX10_figure_16 : decode cX10_figure 16 = .ok (.invokestatic 63, 3) := by decide +kernel
theorem dX10_figure_19 : decode cX10_figure 19 = .ok (.ifCond .ne 5, 3) := by decide +kernel
theorem dX10_figure_22 : decode cX10_figure 22 = .ok (.iconst 2, 1) := by decide +kernel
theorem dX10_figure_23 : decode cX10_figure 23 = .ok (.ireturn, 1) := by decide +kernel
theorem dX10_figure_24 : decode cX10_figure 24 = .ok (.aload_n 0, 1) := by decide +kernel
theorem dX10_figure_25 : decode cX10_figure 25 = .ok (.getfield 16, 3) := by decide +kernel
theorem dX10_figure_28 : decode cX10_figure 28 = .ok (.iload_n 1, 1) := by decide +kernel
theorem dX10_figure_29 : decode cX10_figure 29 = .ok (.aload_n 0, 1) := by decide +kernel
theorem dX10_figure_30 : decode cX10_figure 30 = .ok (.getfield 94, 3) := by decide +kernel
theorem dX10_figure_33 : decode cX10_figure 33 = .ok (.iastore, 1) := by decide +kernel
theorem dX10_figure_34 : decode cX10_figure 34 = .ok (.aload_n 0, 1) := by decide +kernel
theorem dX10_figure_35 : decode cX10_figure 35 = .ok (.invokevirtual 156, 3) := by decide +kernel
theorem dX10_figure_38 : decode cX10_figure 38 = .ok (.iconst 0, 1) := by decide +kernel
theorem dX10_figure_39 : decode cX10_figure 39 = .ok (.ireturn, 1) := by decide +kernel
theorem dX10_lawClause_0 : decode cX10_lawClause 0 = .ok (.aload_n 0, 1) := by decide +kernel
theorem dX10_lawClause_1 : decode cX10_lawClause 1 = .ok (.getfield 16, 3) := by decide +kernel
theorem dX10_lawClause_4 : decode cX10_lawClause 4 = .ok (.iload_n 1, 1) := by decide +kernel
theorem dX10_lawClause_5 : decode cX10_lawClause 5 = .ok (.iconst 1, 1) := by decide +kernel
theorem dX10_lawClause_6 : decode cX10_lawClause 6 = .ok (.iadd, 1) := by decide +kernel
theorem dX10_lawClause_7 : decode cX10_lawClause 7 = .ok (.aload_n 0, 1) := by decide +kernel
theorem dX10_lawClause_8 : decode cX10_lawClause 8 = .ok (.getfield 129, 3) := by decide +kernel
theorem dX10_lawClause_11 : decode cX10_lawClause 11 = .ok (.iastore, 1) := by decide +kernel
theorem dX10_lawClause_12 : decode cX10_lawClause 12 = .ok (.aload_n 0, 1) := by decide +kernel
theorem dX10_lawClause_13 : decode cX10_lawClause 13 = .ok (.invokevirtual 203, 3) := by decide +kernel
theorem dX10_lawClause_16 : decode cX10_lawClause 16 = .ok (.istore_n 2, 1) := by decide +kernel
theorem dX10_lawClause_17 : decode cX10_lawClause 17 = .ok (.aload_n 0, 1) := by decide +kernel
theorem dX10_lawClause_18 : decode cX10_lawClause 18 = .ok (.getfield 16, 3) := by decide +kernel
theorem dX10_lawClause_21 : decode cX10_lawClause 21 = .ok (.iload_n 1, 1) := by decide +kernel
theorem dX10_lawClause_22 : decode cX10_lawClause 22 = .ok (.iconst 2, 1) := by decide +kernel
theorem dX10_lawClause_23 : decode cX10_lawClause 23 = .ok (.iadd, 1) := by decide +kernel
theorem dX10_lawClause_24 : decode cX10_lawClause 24 = .ok (.aload_n 0, 1) := by decide +kernel
theorem dX10_lawClause_25 : decode cX10_lawClause 25 = .ok (.getfield 129, 3) := by decide +kernel
theorem dX10_lawClause_28 : decode cX10_lawClause 28 = .ok (.iastore, 1) := by decide +kernel
theorem dX10_lawClause_29 : decode cX10_lawClause 29 = .ok (.iload_n 2, 1) := by decide +kernel
theorem dX10_lawClause_30 : decode cX10_lawClause 30 = .ok (.ireturn, 1) := by decide +kernel
theorem dX10_pair_0 : decode cX10_pair 0 = .ok (.aload_n 0, 1) := by decide +kernel
theorem dX10_pair_1 : decode cX10_pair 1 = .ok (.iload_n 1, 1) := by decide +kernel
theorem dX10_pair_2 : decode cX10_pair 2 = .ok (.iconst 1, 1) := by decide +kernel
theorem dX10_pair_3 : decode cX10_pair 3 = .ok (.iadd, 1) := by decide +kernel
theorem dX10_pair_4 : decode cX10_pair 4 = .ok (.iload_n 2, 1) := by decide +kernel
theorem dX10_pair_5 : decode cX10_pair 5 = .ok (.iload_n 3, 1) := by decide +kernel
theorem dX10_pair_6 : decode cX10_pair 6 = .ok (.invokevirtual 206, 3) := by decide +kernel
theorem dX10_pair_9 : decode cX10_pair 9 = .ok (.istore 7, 2) := by decide +kernel
theorem dX10_pair_11 : decode cX10_pair 11 = .ok (.iload 7, 2) := by decide +kernel
theorem dX10_pair_13 : decode cX10_pair 13 = .ok (.ifCond .eq 6, 3) := by decide +kernel
theorem dX10_pair_16 : decode cX10_pair 16 = .ok (.iload 7, 2) := by decide +kernel
theorem dX10_pair_18 : decode cX10_pair 18 = .ok (.ireturn, 1) := by decide +kernel
theorem dX10_pair_19 : decode cX10_pair 19 = .ok (.aload_n 0, 1) := by decide +kernel
theorem dX10_pair_20 : decode cX10_pair 20 = .ok (.lload 4, 2) := by decide +kernel
theorem dX10_pair_22 : decode cX10_pair 22 = .ok (.invokevirtual 178, 3) := by decide +kernel
theorem dX10_pair_25 : decode cX10_pair 25 = .ok (.ifCond .ne 5, 3) := by decide +kernel
theorem dX10_pair_28 : decode cX10_pair 28 = .ok (.iconst 1, 1) := by decide +kernel
theorem dX10_pair_29 : decode cX10_pair 29 = .ok (.ireturn, 1) := by decide +kernel
theorem dX10_pair_30 : decode cX10_pair 30 = .ok (.aload_n 0, 1) := by decide +kernel
theorem dX10_pair_31 : decode cX10_pair 31 = .ok (.invokevirtual 156, 3) := by decide +kernel
theorem dX10_pair_34 : decode cX10_pair 34 = .ok (.aload_n 0, 1) := by decide +kernel
theorem dX10_pair_35 : decode cX10_pair 35 = .ok (.iload_n 1, 1) := by decide +kernel
theorem dX10_pair_36 : decode cX10_pair 36 = .ok (.iconst 2, 1) := by decide +kernel
theorem dX10_pair_37 : decode cX10_pair 37 = .ok (.iadd, 1) := by decide +kernel
theorem dX10_pair_38 : decode cX10_pair 38 = .ok (.iconst 0, 1) := by decide +kernel
theorem dX10_pair_39 : decode cX10_pair 39 = .ok (.iload 6, 2) := by decide +kernel
theorem dX10_pair_41 : decode cX10_pair 41 = .ok (.invokevirtual 206, 3) := by decide +kernel
theorem dX10_pair_44 : decode cX10_pair 44 = .ok (.ireturn, 1) := by decide +kernel
theorem dX10_body_0 : decode cX10_body 0 = .ok (.iload_n 1, 1) := by decide +kernel
theorem dX10_body_1 : decode cX10_body 1 = .ok (.tableswitch 153 2 9 #[47, 58, 77, 88, 105, 122, 124, 142], 47) := by decide +kernel
theorem dX10_body_48 : decode cX10_body 48 = .ok (.aload_n 0, 1) := by decide +kernel
theorem dX10_body_49 : decode cX10_body 49 = .ok (.iload_n 2, 1) := by decide +kernel
theorem dX10_body_50 : decode cX10_body 50 = .ok (.iconst 1, 1) := by decide +kernel
theorem dX10_body_51 : decode cX10_body 51 = .ok (.iadd, 1) := by decide +kernel
theorem dX10_body_52 : decode cX10_body 52 = .ok (.iconst 1, 1) := by decide +kernel
theorem dX10_body_53 : decode cX10_body 53 = .ok (.bipush 9, 2) := by decide +kernel
theorem dX10_body_55 : decode cX10_body 55 = .ok (.invokevirtual 206, 3) := by decide +kernel
theorem dX10_body_58 : decode cX10_body 58 = .ok (.ireturn, 1) := by decide +kernel
theorem dX10_body_59 : decode cX10_body 59 = .ok (.aload_n 0, 1) := by decide +kernel
theorem dX10_body_60 : decode cX10_body 60 = .ok (.iload_n 2, 1) := by decide +kernel
theorem dX10_body_61 : decode cX10_body 61 = .ok (.iconst 0, 1) := by decide +kernel
theorem dX10_body_62 : decode cX10_body 62 = .ok (.sipush 999, 3) := by decide +kernel
theorem dX10_body_65 : decode cX10_body 65 = .ok (.bipush 97, 2) := by decide +kernel
theorem dX10_body_67 : decode cX10_body 67 = .ok (.bipush 116, 2) := by decide +kernel
theorem dX10_body_69 : decode cX10_body 69 = .ok (.invokestatic 110, 3) := by decide +kernel
theorem dX10_body_72 : decode cX10_body 72 = .ok (.bipush 11, 2) := by decide +kernel
theorem dX10_body_74 : decode cX10_body 74 = .ok (.invokevirtual 210, 3) := by decide +kernel
theorem dX10_body_77 : decode cX10_body 77 = .ok (.ireturn, 1) := by decide +kernel
theorem dX10_body_78 : decode cX10_body 78 = .ok (.aload_n 0, 1) := by decide +kernel
theorem dX10_body_79 : decode cX10_body 79 = .ok (.iload_n 2, 1) := by decide +kernel
theorem dX10_body_80 : decode cX10_body 80 = .ok (.iconst 1, 1) := by decide +kernel
theorem dX10_body_81 : decode cX10_body 81 = .ok (.iadd, 1) := by decide +kernel
theorem dX10_body_82 : decode cX10_body 82 = .ok (.iconst 0, 1) := by decide +kernel
theorem dX10_body_83 : decode cX10_body 83 = .ok (.bipush 11, 2) := by decide +kernel
theorem dX10_body_85 : decode cX10_body 85 = .ok (.invokevirtual 206, 3) := by decide +kernel
theorem dX10_body_88 : decode cX10_body 88 = .ok (.ireturn, 1) := by decide +kernel
theorem dX10_body_89 : decode cX10_body 89 = .ok (.aload_n 0, 1) := by decide +kernel
theorem dX10_body_90 : decode cX10_body 90 = .ok (.iload_n 2, 1) := by decide +kernel
theorem dX10_body_91 : decode cX10_body 91 = .ok (.iconst 0, 1) := by decide +kernel
theorem dX10_body_92 : decode cX10_body 92 = .ok (.bipush 11, 2) := by decide +kernel
theorem dX10_body_94 : decode cX10_body 94 = .ok (.bipush 98, 2) := by decide +kernel
theorem dX10_body_96 : decode cX10_body 96 = .ok (.bipush 121, 2) := by decide +kernel
theorem dX10_body_98 : decode cX10_body 98 = .ok (.invokestatic 110, 3) := by decide +kernel
theorem dX10_body_101 : decode cX10_body 101 = .ok (.iconst 3, 1) := by decide +kernel
theorem dX10_body_102 : decode cX10_body 102 = .ok (.invokevirtual 210, 3) := by decide +kernel
theorem dX10_body_105 : decode cX10_body 105 = .ok (.ireturn, 1) := by decide +kernel
theorem dX10_body_106 : decode cX10_body 106 = .ok (.aload_n 0, 1) := by decide +kernel
theorem dX10_body_107 : decode cX10_body 107 = .ok (.iload_n 2, 1) := by decide +kernel
theorem dX10_body_108 : decode cX10_body 108 = .ok (.iconst 0, 1) := by decide +kernel
theorem dX10_body_109 : decode cX10_body 109 = .ok (.bipush 11, 2) := by decide +kernel
theorem dX10_body_111 : decode cX10_body 111 = .ok (.bipush 98, 2) := by decide +kernel
theorem dX10_body_113 : decode cX10_body 113 = .ok (.bipush 121, 2) := by decide +kernel
theorem dX10_body_115 : decode cX10_body 115 = .ok (.invokestatic 110, 3) := by decide +kernel
theorem dX10_body_118 : decode cX10_body 118 = .ok (.iconst 3, 1) := by decide +kernel
theorem dX10_body_119 : decode cX10_body 119 = .ok (.invokevirtual 210, 3) := by decide +kernel
theorem dX10_body_122 : decode cX10_body 122 = .ok (.ireturn, 1) := by decide +kernel
theorem dX10_body_123 : decode cX10_body 123 = .ok (.iconst 0, 1) := by decide +kernel
theorem dX10_body_124 : decode cX10_body 124 = .ok (.ireturn, 1) := by decide +kernel
theorem dX10_body_125 : decode cX10_body 125 = .ok (.aload_n 0, 1) := by decide +kernel
theorem dX10_body_126 : decode cX10_body 126 = .ok (.iload_n 2, 1) := by decide +kernel
theorem dX10_body_127 : decode cX10_body 127 = .ok (.iconst 1, 1) := by decide +kernel
theorem dX10_body_128 : decode cX10_body 128 = .ok (.bipush 99, 2) := by decide +kernel
theorem dX10_body_130 : decode cX10_body 130 = .ok (.bipush 97, 2) := by decide +kernel
theorem dX10_body_132 : decode cX10_body 132 = .ok (.bipush 116, 2) := by decide +kernel
theorem dX10_body_134 : decode cX10_body 134 = .ok (.invokestatic 110, 3) := by decide +kernel
theorem dX10_body_137 : decode cX10_body 137 = .ok (.bipush 11, 2) := by decide +kernel
theorem dX10_body_139 : decode cX10_body 139 = .ok (.invokevirtual 210, 3) := by decide +kernel
theorem dX10_body_142 : decode cX10_body 142 = .ok (.ireturn, 1) := by decide +kernel
theorem dX10_body_143 : decode cX10_body 143 = .ok (.aload_n 0, 1) := by decide +kernel
theorem dX10_body_144 : decode cX10_body 144 = .ok (.iload_n 2, 1) := by decide +kernel
theorem dX10_body_145 : decode cX10_body 145 = .ok (.iconst 1, 1) := by decide +kernel
theorem dX10_body_146 : decode cX10_body 146 = .ok (.iadd, 1) := by decide +kernel
theorem dX10_body_147 : decode cX10_body 147 = .ok (.iconst 1, 1) := by decide +kernel
theorem dX10_body_148 : decode cX10_body 148 = .ok (.bipush 60, 2) := by decide +kernel
theorem dX10_body_150 : decode cX10_body 150 = .ok (.invokevirtual 206, 3) := by decide +kernel
theorem dX10_body_153 : decode cX10_body 153 = .ok (.ireturn, 1) := by decide +kernel
theorem dX10_body_154 : decode cX10_body 154 = .ok (.aload_n 0, 1) := by decide +kernel
theorem dX10_body_155 : decode cX10_body 155 = .ok (.iload_n 2, 1) := by decide +kernel
theorem dX10_body_156 : decode cX10_body 156 = .ok (.invokevirtual 214, 3) := by decide +kernel
theorem dX10_body_159 : decode cX10_body 159 = .ok (.ireturn, 1) := by decide +kernel
theorem dX10_sortOf_0 : decode cX10_sortOf 0 = .ok (.aload_n 0, 1) := by decide +kernel
theorem dX10_sortOf_1 : decode cX10_sortOf 1 = .ok (.bipush 109, 2) := by decide +kernel
theorem dX10_sortOf_3 : decode cX10_sortOf 3 = .ok (.bipush 111, 2) := by decide +kernel
theorem dX10_sortOf_5 : decode cX10_sortOf 5 = .ok (.bipush 118, 2) := by decide +kernel
theorem dX10_sortOf_7 : decode cX10_sortOf 7 = .ok (.bipush 101, 2) := by decide +kernel
theorem dX10_sortOf_9 : decode cX10_sortOf 9 = .ok (.bipush 115, 2) := by decide +kernel
theorem dX10_sortOf_11 : decode cX10_sortOf 11 = .ok (.invokestatic 122, 3) := by decide +kernel
theorem dX10_sortOf_14 : decode cX10_sortOf 14 = .ok (.invokevirtual 178, 3) := by decide +kernel
theorem dX10_sortOf_17 : decode cX10_sortOf 17 = .ok (.ifCond .eq 5, 3) := by decide +kernel
theorem dX10_sortOf_20 : decode cX10_sortOf 20 = .ok (.iconst 0, 1) := by decide +kernel
theorem dX10_sortOf_21 : decode cX10_sortOf 21 = .ok (.ireturn, 1) := by decide +kernel
theorem dX10_sortOf_22 : decode cX10_sortOf 22 = .ok (.aload_n 0, 1) := by decide +kernel
theorem dX10_sortOf_23 : decode cX10_sortOf 23 = .ok (.bipush 116, 2) := by decide +kernel
theorem dX10_sortOf_25 : decode cX10_sortOf 25 = .ok (.bipush 101, 2) := by decide +kernel
theorem dX10_sortOf_27 : decode cX10_sortOf 27 = .ok (.bipush 97, 2) := by decide +kernel
theorem dX10_sortOf_29 : decode cX10_sortOf 29 = .ok (.bipush 114, 2) := by decide +kernel
theorem dX10_sortOf_31 : decode cX10_sortOf 31 = .ok (.bipush 115, 2) := by decide +kernel
theorem dX10_sortOf_33 : decode cX10_sortOf 33 = .ok (.invokestatic 122, 3) := by decide +kernel
theorem dX10_sortOf_36 : decode cX10_sortOf 36 = .ok (.invokevirtual 178, 3) := by decide +kernel
theorem dX10_sortOf_39 : decode cX10_sortOf 39 = .ok (.ifCond .eq 5, 3) := by decide +kernel
theorem dX10_sortOf_42 : decode cX10_sortOf 42 = .ok (.iconst 1, 1) := by decide +kernel
theorem dX10_sortOf_43 : decode cX10_sortOf 43 = .ok (.ireturn, 1) := by decide +kernel
theorem dX10_sortOf_44 : decode cX10_sortOf 44 = .ok (.aload_n 0, 1) := by decide +kernel
theorem dX10_sortOf_45 : decode cX10_sortOf 45 = .ok (.bipush 104, 2) := by decide +kernel
theorem dX10_sortOf_47 : decode cX10_sortOf 47 = .ok (.bipush 97, 2) := by decide +kernel
theorem dX10_sortOf_49 : decode cX10_sortOf 49 = .ok (.bipush 110, 2) := by decide +kernel
theorem dX10_sortOf_51 : decode cX10_sortOf 51 = .ok (.bipush 100, 2) := by decide +kernel
theorem dX10_sortOf_53 : decode cX10_sortOf 53 = .ok (.invokestatic 118, 3) := by decide +kernel
theorem dX10_sortOf_56 : decode cX10_sortOf 56 = .ok (.invokevirtual 178, 3) := by decide +kernel
theorem dX10_sortOf_59 : decode cX10_sortOf 59 = .ok (.ifCond .eq 5, 3) := by decide +kernel
theorem dX10_sortOf_62 : decode cX10_sortOf 62 = .ok (.iconst 2, 1) := by decide +kernel
theorem dX10_sortOf_63 : decode cX10_sortOf 63 = .ok (.ireturn, 1) := by decide +kernel
theorem dX10_sortOf_64 : decode cX10_sortOf 64 = .ok (.aload_n 0, 1) := by decide +kernel
theorem dX10_sortOf_65 : decode cX10_sortOf 65 = .ok (.bipush 100, 2) := by decide +kernel
theorem dX10_sortOf_67 : decode cX10_sortOf 67 = .ok (.bipush 111, 2) := by decide +kernel
theorem dX10_sortOf_69 : decode cX10_sortOf 69 = .ok (.bipush 117, 2) := by decide +kernel
theorem dX10_sortOf_71 : decode cX10_sortOf 71 = .ok (.bipush 103, 2) := by decide +kernel
theorem dX10_sortOf_73 : decode cX10_sortOf 73 = .ok (.bipush 104, 2) := by decide +kernel
theorem dX10_sortOf_75 : decode cX10_sortOf 75 = .ok (.invokestatic 122, 3) := by decide +kernel
theorem dX10_sortOf_78 : decode cX10_sortOf 78 = .ok (.invokevirtual 178, 3) := by decide +kernel
theorem dX10_sortOf_81 : decode cX10_sortOf 81 = .ok (.ifCond .eq 5, 3) := by decide +kernel
theorem dX10_sortOf_84 : decode cX10_sortOf 84 = .ok (.iconst 3, 1) := by decide +kernel
theorem dX10_sortOf_85 : decode cX10_sortOf 85 = .ok (.ireturn, 1) := by decide +kernel
theorem dX10_sortOf_86 : decode cX10_sortOf 86 = .ok (.aload_n 0, 1) := by decide +kernel
theorem dX10_sortOf_87 : decode cX10_sortOf 87 = .ok (.bipush 116, 2) := by decide +kernel
theorem dX10_sortOf_89 : decode cX10_sortOf 89 = .ok (.bipush 111, 2) := by decide +kernel
theorem dX10_sortOf_91 : decode cX10_sortOf 91 = .ok (.bipush 119, 2) := by decide +kernel
theorem dX10_sortOf_93 : decode cX10_sortOf 93 = .ok (.bipush 110, 2) := by decide +kernel
theorem dX10_sortOf_95 : decode cX10_sortOf 95 = .ok (.invokestatic 118, 3) := by decide +kernel
theorem dX10_sortOf_98 : decode cX10_sortOf 98 = .ok (.invokevirtual 178, 3) := by decide +kernel
theorem dX10_sortOf_101 : decode cX10_sortOf 101 = .ok (.ifCond .eq 5, 3) := by decide +kernel
theorem dX10_sortOf_104 : decode cX10_sortOf 104 = .ok (.iconst 4, 1) := by decide +kernel
theorem dX10_sortOf_105 : decode cX10_sortOf 105 = .ok (.ireturn, 1) := by decide +kernel
theorem dX10_sortOf_106 : decode cX10_sortOf 106 = .ok (.aload_n 0, 1) := by decide +kernel
theorem dX10_sortOf_107 : decode cX10_sortOf 107 = .ok (.bipush 108, 2) := by decide +kernel
theorem dX10_sortOf_109 : decode cX10_sortOf 109 = .ok (.bipush 101, 2) := by decide +kernel
theorem dX10_sortOf_111 : decode cX10_sortOf 111 = .ok (.bipush 102, 2) := by decide +kernel
theorem dX10_sortOf_113 : decode cX10_sortOf 113 = .ok (.bipush 116, 2) := by decide +kernel
theorem dX10_sortOf_115 : decode cX10_sortOf 115 = .ok (.invokestatic 118, 3) := by decide +kernel
theorem dX10_sortOf_118 : decode cX10_sortOf 118 = .ok (.invokevirtual 178, 3) := by decide +kernel
theorem dX10_sortOf_121 : decode cX10_sortOf 121 = .ok (.ifCond .eq 5, 3) := by decide +kernel
theorem dX10_sortOf_124 : decode cX10_sortOf 124 = .ok (.iconst 5, 1) := by decide +kernel
theorem dX10_sortOf_125 : decode cX10_sortOf 125 = .ok (.ireturn, 1) := by decide +kernel
theorem dX10_sortOf_126 : decode cX10_sortOf 126 = .ok (.aload_n 0, 1) := by decide +kernel
theorem dX10_sortOf_127 : decode cX10_sortOf 127 = .ok (.bipush 114, 2) := by decide +kernel
theorem dX10_sortOf_129 : decode cX10_sortOf 129 = .ok (.bipush 105, 2) := by decide +kernel
theorem dX10_sortOf_131 : decode cX10_sortOf 131 = .ok (.bipush 103, 2) := by decide +kernel
theorem dX10_sortOf_133 : decode cX10_sortOf 133 = .ok (.bipush 104, 2) := by decide +kernel
theorem dX10_sortOf_135 : decode cX10_sortOf 135 = .ok (.bipush 116, 2) := by decide +kernel
theorem dX10_sortOf_137 : decode cX10_sortOf 137 = .ok (.invokestatic 122, 3) := by decide +kernel
theorem dX10_sortOf_140 : decode cX10_sortOf 140 = .ok (.invokevirtual 178, 3) := by decide +kernel
theorem dX10_sortOf_143 : decode cX10_sortOf 143 = .ok (.ifCond .eq 6, 3) := by decide +kernel
theorem dX10_sortOf_146 : decode cX10_sortOf 146 = .ok (.bipush 6, 2) := by decide +kernel
theorem dX10_sortOf_148 : decode cX10_sortOf 148 = .ok (.ireturn, 1) := by decide +kernel
theorem dX10_sortOf_149 : decode cX10_sortOf 149 = .ok (.aload_n 0, 1) := by decide +kernel
theorem dX10_sortOf_150 : decode cX10_sortOf 150 = .ok (.bipush 116, 2) := by decide +kernel
theorem dX10_sortOf_152 : decode cX10_sortOf 152 = .ok (.bipush 114, 2) := by decide +kernel
theorem dX10_sortOf_154 : decode cX10_sortOf 154 = .ok (.bipush 105, 2) := by decide +kernel
theorem dX10_sortOf_156 : decode cX10_sortOf 156 = .ok (.bipush 109, 2) := by decide +kernel
theorem dX10_sortOf_158 : decode cX10_sortOf 158 = .ok (.invokestatic 118, 3) := by decide +kernel
theorem dX10_sortOf_161 : decode cX10_sortOf 161 = .ok (.invokevirtual 178, 3) := by decide +kernel
theorem dX10_sortOf_164 : decode cX10_sortOf 164 = .ok (.ifCond .eq 6, 3) := by decide +kernel
theorem dX10_sortOf_167 : decode cX10_sortOf 167 = .ok (.bipush 7, 2) := by decide +kernel
theorem dX10_sortOf_169 : decode cX10_sortOf 169 = .ok (.ireturn, 1) := by decide +kernel
theorem dX10_sortOf_170 : decode cX10_sortOf 170 = .ok (.aload_n 0, 1) := by decide +kernel
theorem dX10_sortOf_171 : decode cX10_sortOf 171 = .ok (.bipush 112, 2) := by decide +kernel
theorem dX10_sortOf_173 : decode cX10_sortOf 173 = .ok (.bipush 97, 2) := by decide +kernel
theorem dX10_sortOf_175 : decode cX10_sortOf 175 = .ok (.bipush 116, 2) := by decide +kernel
theorem dX10_sortOf_177 : decode cX10_sortOf 177 = .ok (.bipush 99, 2) := by decide +kernel
theorem dX10_sortOf_179 : decode cX10_sortOf 179 = .ok (.bipush 104, 2) := by decide +kernel
theorem dX10_sortOf_181 : decode cX10_sortOf 181 = .ok (.invokestatic 122, 3) := by decide +kernel
theorem dX10_sortOf_184 : decode cX10_sortOf 184 = .ok (.invokevirtual 178, 3) := by decide +kernel
theorem dX10_sortOf_187 : decode cX10_sortOf 187 = .ok (.ifCond .eq 8, 3) := by decide +kernel
theorem dX10_sortOf_190 : decode cX10_sortOf 190 = .ok (.bipush 8, 2) := by decide +kernel
theorem dX10_sortOf_192 : decode cX10_sortOf 192 = .ok (.goto 27, 3) := by decide +kernel
theorem dX10_sortOf_195 : decode cX10_sortOf 195 = .ok (.aload_n 0, 1) := by decide +kernel
theorem dX10_sortOf_196 : decode cX10_sortOf 196 = .ok (.bipush 116, 2) := by decide +kernel
theorem dX10_sortOf_198 : decode cX10_sortOf 198 = .ok (.bipush 117, 2) := by decide +kernel
theorem dX10_sortOf_200 : decode cX10_sortOf 200 = .ok (.bipush 114, 2) := by decide +kernel
theorem dX10_sortOf_202 : decode cX10_sortOf 202 = .ok (.bipush 110, 2) := by decide +kernel
theorem dX10_sortOf_204 : decode cX10_sortOf 204 = .ok (.invokestatic 118, 3) := by decide +kernel
theorem dX10_sortOf_207 : decode cX10_sortOf 207 = .ok (.invokevirtual 178, 3) := by decide +kernel
theorem dX10_sortOf_210 : decode cX10_sortOf 210 = .ok (.ifCond .eq 8, 3) := by decide +kernel
theorem dX10_sortOf_213 : decode cX10_sortOf 213 = .ok (.bipush 9, 2) := by decide +kernel
theorem dX10_sortOf_215 : decode cX10_sortOf 215 = .ok (.goto 4, 3) := by decide +kernel
theorem dX10_sortOf_218 : decode cX10_sortOf 218 = .ok (.iconst (-1), 1) := by decide +kernel
theorem dX10_sortOf_219 : decode cX10_sortOf 219 = .ok (.ireturn, 1) := by decide +kernel
theorem dX10_clause_0 : decode cX10_clause 0 = .ok (.aload_n 0, 1) := by decide +kernel
theorem dX10_clause_1 : decode cX10_clause 1 = .ok (.invokevirtual 217, 3) := by decide +kernel
theorem dX10_clause_4 : decode cX10_clause 4 = .ok (.istore_n 1, 1) := by decide +kernel
theorem dX10_clause_5 : decode cX10_clause 5 = .ok (.iload_n 1, 1) := by decide +kernel
theorem dX10_clause_6 : decode cX10_clause 6 = .ok (.ifCond .ge 5, 3) := by decide +kernel
theorem dX10_clause_9 : decode cX10_clause 9 = .ok (.iconst 1, 1) := by decide +kernel
theorem dX10_clause_10 : decode cX10_clause 10 = .ok (.ireturn, 1) := by decide +kernel
theorem dX10_clause_11 : decode cX10_clause 11 = .ok (.iload_n 1, 1) := by decide +kernel
theorem dX10_clause_12 : decode cX10_clause 12 = .ok (.iconst 1, 1) := by decide +kernel
theorem dX10_clause_13 : decode cX10_clause 13 = .ok (.if_icmp .gt 16, 3) := by decide +kernel
theorem dX10_clause_16 : decode cX10_clause 16 = .ok (.aload_n 0, 1) := by decide +kernel
theorem dX10_clause_17 : decode cX10_clause 17 = .ok (.getfield 220, 3) := by decide +kernel
theorem dX10_clause_20 : decode cX10_clause 20 = .ok (.iload_n 1, 1) := by decide +kernel
theorem dX10_clause_21 : decode cX10_clause 21 = .ok (.invokestatic 223, 3) := by decide +kernel
theorem dX10_clause_24 : decode cX10_clause 24 = .ok (.ifCond .eq 5, 3) := by decide +kernel
theorem dX10_clause_27 : decode cX10_clause 27 = .ok (.iconst 4, 1) := by decide +kernel
theorem dX10_clause_28 : decode cX10_clause 28 = .ok (.ireturn, 1) := by decide +kernel
theorem dX10_clause_29 : decode cX10_clause 29 = .ok (.aload_n 0, 1) := by decide +kernel
theorem dX10_clause_30 : decode cX10_clause 30 = .ok (.getfield 16, 3) := by decide +kernel
theorem dX10_clause_33 : decode cX10_clause 33 = .ok (.aload_n 0, 1) := by decide +kernel
theorem dX10_clause_34 : decode cX10_clause 34 = .ok (.getfield 126, 3) := by decide +kernel
theorem dX10_clause_37 : decode cX10_clause 37 = .ok (.iaload, 1) := by decide +kernel
theorem dX10_clause_38 : decode cX10_clause 38 = .ok (.istore_n 2, 1) := by decide +kernel
theorem dX10_clause_39 : decode cX10_clause 39 = .ok (.iload_n 2, 1) := by decide +kernel
theorem dX10_clause_40 : decode cX10_clause 40 = .ok (.bipush 24, 2) := by decide +kernel
theorem dX10_clause_42 : decode cX10_clause 42 = .ok (.if_icmp .ne 6, 3) := by decide +kernel
theorem dX10_clause_45 : decode cX10_clause 45 = .ok (.bipush 6, 2) := by decide +kernel
theorem dX10_clause_47 : decode cX10_clause 47 = .ok (.ireturn, 1) := by decide +kernel
theorem dX10_clause_48 : decode cX10_clause 48 = .ok (.iload_n 1, 1) := by decide +kernel
theorem dX10_clause_49 : decode cX10_clause 49 = .ok (.iconst 1, 1) := by decide +kernel
theorem dX10_clause_50 : decode cX10_clause 50 = .ok (.if_icmp .gt 15, 3) := by decide +kernel
theorem dX10_clause_53 : decode cX10_clause 53 = .ok (.aload_n 0, 1) := by decide +kernel
theorem dX10_clause_54 : decode cX10_clause 54 = .ok (.dup, 1) := by decide +kernel
theorem dX10_clause_55 : decode cX10_clause 55 = .ok (.getfield 220, 3) := by decide +kernel
theorem dX10_clause_58 : decode cX10_clause 58 = .ok (.iconst 1, 1) := by decide +kernel
theorem dX10_clause_59 : decode cX10_clause 59 = .ok (.iload_n 1, 1) := by decide +kernel
theorem dX10_clause_60 : decode cX10_clause 60 = .ok (.ishl, 1) := by decide +kernel
theorem dX10_clause_61 : decode cX10_clause 61 = .ok (.ior, 1) := by decide +kernel
theorem dX10_clause_62 : decode cX10_clause 62 = .ok (.putfield 220, 3) := by decide +kernel
theorem dX10_clause_65 : decode cX10_clause 65 = .ok (.aload_n 0, 1) := by decide +kernel
theorem dX10_clause_66 : decode cX10_clause 66 = .ok (.iload_n 1, 1) := by decide +kernel
theorem dX10_clause_67 : decode cX10_clause 67 = .ok (.putfield 162, 3) := by decide +kernel
theorem dX10_clause_70 : decode cX10_clause 70 = .ok (.aload_n 0, 1) := by decide +kernel
theorem dX10_clause_71 : decode cX10_clause 71 = .ok (.invokevirtual 156, 3) := by decide +kernel
theorem dX10_clause_74 : decode cX10_clause 74 = .ok (.aload_n 0, 1) := by decide +kernel
theorem dX10_clause_75 : decode cX10_clause 75 = .ok (.getfield 126, 3) := by decide +kernel
theorem dX10_clause_78 : decode cX10_clause 78 = .ok (.iconst 1, 1) := by decide +kernel
theorem dX10_clause_79 : decode cX10_clause 79 = .ok (.iadd, 1) := by decide +kernel
theorem dX10_clause_80 : decode cX10_clause 80 = .ok (.iconst 3, 1) := by decide +kernel
theorem dX10_clause_81 : decode cX10_clause 81 = .ok (.iload_n 2, 1) := by decide +kernel
theorem dX10_clause_82 : decode cX10_clause 82 = .ok (.imul, 1) := by decide +kernel
theorem dX10_clause_83 : decode cX10_clause 83 = .ok (.iadd, 1) := by decide +kernel
theorem dX10_clause_84 : decode cX10_clause 84 = .ok (.istore_n 3, 1) := by decide +kernel
theorem dX10_clause_85 : decode cX10_clause 85 = .ok (.aload_n 0, 1) := by decide +kernel
theorem dX10_clause_86 : decode cX10_clause 86 = .ok (.getfield 16, 3) := by decide +kernel
theorem dX10_clause_89 : decode cX10_clause 89 = .ok (.iload_n 3, 1) := by decide +kernel
theorem dX10_clause_90 : decode cX10_clause 90 = .ok (.iload_n 1, 1) := by decide +kernel
theorem dX10_clause_91 : decode cX10_clause 91 = .ok (.iastore, 1) := by decide +kernel
theorem dX10_clause_92 : decode cX10_clause 92 = .ok (.aload_n 0, 1) := by decide +kernel
theorem dX10_clause_93 : decode cX10_clause 93 = .ok (.iload_n 1, 1) := by decide +kernel
theorem dX10_clause_94 : decode cX10_clause 94 = .ok (.iload_n 3, 1) := by decide +kernel
theorem dX10_clause_95 : decode cX10_clause 95 = .ok (.invokevirtual 227, 3) := by decide +kernel
theorem dX10_clause_98 : decode cX10_clause 98 = .ok (.istore 4, 2) := by decide +kernel
theorem dX10_clause_100 : decode cX10_clause 100 = .ok (.iload 4, 2) := by decide +kernel
theorem dX10_clause_102 : decode cX10_clause 102 = .ok (.ifCond .eq 6, 3) := by decide +kernel
theorem dX10_clause_105 : decode cX10_clause 105 = .ok (.iload 4, 2) := by decide +kernel
theorem dX10_clause_107 : decode cX10_clause 107 = .ok (.ireturn, 1) := by decide +kernel
theorem dX10_clause_108 : decode cX10_clause 108 = .ok (.aload_n 0, 1) := by decide +kernel
theorem dX10_clause_109 : decode cX10_clause 109 = .ok (.getfield 16, 3) := by decide +kernel
theorem dX10_clause_112 : decode cX10_clause 112 = .ok (.aload_n 0, 1) := by decide +kernel
theorem dX10_clause_113 : decode cX10_clause 113 = .ok (.getfield 126, 3) := by decide +kernel
theorem dX10_clause_116 : decode cX10_clause 116 = .ok (.dup2, 1) := by decide +kernel
theorem dX10_clause_117 : decode cX10_clause 117 = .ok (.iaload, 1) := by decide +kernel
theorem dX10_clause_118 : decode cX10_clause 118 = .ok (.iconst 1, 1) := by decide +kernel
theorem dX10_clause_119 : decode cX10_clause 119 = .ok (.iadd, 1) := by decide +kernel
theorem dX10_clause_120 : decode cX10_clause 120 = .ok (.iastore, 1) := by decide +kernel
theorem dX10_clause_121 : decode cX10_clause 121 = .ok (.aload_n 0, 1) := by decide +kernel
theorem dX10_clause_122 : decode cX10_clause 122 = .ok (.getfield 88, 3) := by decide +kernel
theorem dX10_clause_125 : decode cX10_clause 125 = .ok (.bipush 59, 2) := by decide +kernel
theorem dX10_clause_127 : decode cX10_clause 127 = .ok (.if_icmp .eq 5, 3) := by decide +kernel
theorem dX10_clause_130 : decode cX10_clause 130 = .ok (.iconst 1, 1) := by decide +kernel
theorem dX10_clause_131 : decode cX10_clause 131 = .ok (.ireturn, 1) := by decide +kernel
theorem dX10_clause_132 : decode cX10_clause 132 = .ok (.aload_n 0, 1) := by decide +kernel
theorem dX10_clause_133 : decode cX10_clause 133 = .ok (.invokevirtual 156, 3) := by decide +kernel
theorem dX10_clause_136 : decode cX10_clause 136 = .ok (.iconst 0, 1) := by decide +kernel
theorem dX10_clause_137 : decode cX10_clause 137 = .ok (.ireturn, 1) := by decide +kernel
theorem dX10_readText_0 : decode cX10_readText 0 = .ok (.aload_n 0, 1) := by decide +kernel
theorem dX10_readText_1 : decode cX10_readText 1 = .ok (.sipush 681, 3) := by decide +kernel
theorem dX10_readText_4 : decode cX10_readText 4 = .ok (.aload_n 0, 1) := by decide +kernel
theorem dX10_readText_5 : decode cX10_readText 5 = .ok (.getfield 7, 3) := by decide +kernel
theorem dX10_readText_8 : decode cX10_readText 8 = .ok (.iconst 2, 1) := by decide +kernel
theorem dX10_readText_9 : decode cX10_readText 9 = .ok (.iaload, 1) := by decide +kernel
theorem dX10_readText_10 : decode cX10_readText 10 = .ok (.imul, 1) := by decide +kernel
theorem dX10_readText_11 : decode cX10_readText 11 = .ok (.putfield 126, 3) := by decide +kernel
theorem dX10_readText_14 : decode cX10_readText 14 = .ok (.aload_n 0, 1) := by decide +kernel
theorem dX10_readText_15 : decode cX10_readText 15 = .ok (.getfield 16, 3) := by decide +kernel
theorem dX10_readText_18 : decode cX10_readText 18 = .ok (.aload_n 0, 1) := by decide +kernel
theorem dX10_readText_19 : decode cX10_readText 19 = .ok (.getfield 126, 3) := by decide +kernel
theorem dX10_readText_22 : decode cX10_readText 22 = .ok (.iconst 0, 1) := by decide +kernel
theorem dX10_readText_23 : decode cX10_readText 23 = .ok (.iastore, 1) := by decide +kernel
theorem dX10_readText_24 : decode cX10_readText 24 = .ok (.aload_n 0, 1) := by decide +kernel
theorem dX10_readText_25 : decode cX10_readText 25 = .ok (.iconst 0, 1) := by decide +kernel
theorem dX10_readText_26 : decode cX10_readText 26 = .ok (.putfield 129, 3) := by decide +kernel
theorem dX10_readText_29 : decode cX10_readText 29 = .ok (.aload_n 0, 1) := by decide +kernel
theorem dX10_readText_30 : decode cX10_readText 30 = .ok (.iconst 0, 1) := by decide +kernel
theorem dX10_readText_31 : decode cX10_readText 31 = .ok (.putfield 220, 3) := by decide +kernel
theorem dX10_readText_34 : decode cX10_readText 34 = .ok (.aload_n 0, 1) := by decide +kernel
theorem dX10_readText_35 : decode cX10_readText 35 = .ok (.iconst 0, 1) := by decide +kernel
theorem dX10_readText_36 : decode cX10_readText 36 = .ok (.putfield 78, 3) := by decide +kernel
theorem dX10_readText_39 : decode cX10_readText 39 = .ok (.aload_n 0, 1) := by decide +kernel
theorem dX10_readText_40 : decode cX10_readText 40 = .ok (.invokevirtual 156, 3) := by decide +kernel
theorem dX10_readText_43 : decode cX10_readText 43 = .ok (.aload_n 0, 1) := by decide +kernel
theorem dX10_readText_44 : decode cX10_readText 44 = .ok (.getfield 88, 3) := by decide +kernel
theorem dX10_readText_47 : decode cX10_readText 47 = .ok (.ifCond .eq 17, 3) := by decide +kernel
theorem dX10_readText_50 : decode cX10_readText 50 = .ok (.aload_n 0, 1) := by decide +kernel
theorem dX10_readText_51 : decode cX10_readText 51 = .ok (.invokevirtual 231, 3) := by decide +kernel
theorem dX10_readText_54 : decode cX10_readText 54 = .ok (.istore_n 1, 1) := by decide +kernel
theorem dX10_readText_55 : decode cX10_readText 55 = .ok (.iload_n 1, 1) := by decide +kernel
theorem dX10_readText_56 : decode cX10_readText 56 = .ok (.ifCond .eq 5, 3) := by decide +kernel
theorem dX10_readText_59 : decode cX10_readText 59 = .ok (.iload_n 1, 1) := by decide +kernel
theorem dX10_readText_60 : decode cX10_readText 60 = .ok (.ireturn, 1) := by decide +kernel
theorem dX10_readText_61 : decode cX10_readText 61 = .ok (.goto (-18), 3) := by decide +kernel
theorem dX10_readText_64 : decode cX10_readText 64 = .ok (.iconst 0, 1) := by decide +kernel
theorem dX10_readText_65 : decode cX10_readText 65 = .ok (.ireturn, 1) := by decide +kernel
theorem dX10_text_0 : decode cX10_text 0 = .ok (.aload_n 0, 1) := by decide +kernel
theorem dX10_text_1 : decode cX10_text 1 = .ok (.getfield 7, 3) := by decide +kernel
theorem dX10_text_4 : decode cX10_text 4 = .ok (.iconst 2, 1) := by decide +kernel
theorem dX10_text_5 : decode cX10_text 5 = .ok (.iaload, 1) := by decide +kernel
theorem dX10_text_6 : decode cX10_text 6 = .ok (.iconst 4, 1) := by decide +kernel
theorem dX10_text_7 : decode cX10_text 7 = .ok (.if_icmp .ne 5, 3) := by decide +kernel
theorem dX10_text_10 : decode cX10_text 10 = .ok (.iconst (-1), 1) := by decide +kernel
theorem dX10_text_11 : decode cX10_text 11 = .ok (.ireturn, 1) := by decide +kernel
theorem dX10_text_12 : decode cX10_text 12 = .ok (.aload_n 0, 1) := by decide +kernel
theorem dX10_text_13 : decode cX10_text 13 = .ok (.aload_n 0, 1) := by decide +kernel
theorem dX10_text_14 : decode cX10_text 14 = .ok (.invokevirtual 234, 3) := by decide +kernel
theorem dX10_text_17 : decode cX10_text 17 = .ok (.putfield 22, 3) := by decide +kernel
theorem dX10_text_20 : decode cX10_text 20 = .ok (.aload_n 0, 1) := by decide +kernel
theorem dX10_text_21 : decode cX10_text 21 = .ok (.aload_n 0, 1) := by decide +kernel
theorem dX10_text_22 : decode cX10_text 22 = .ok (.getfield 22, 3) := by decide +kernel
theorem dX10_text_25 : decode cX10_text 25 = .ok (.ifCond .ne 7, 3) := by decide +kernel
theorem dX10_text_28 : decode cX10_text 28 = .ok (.iconst (-1), 1) := by decide +kernel
theorem dX10_text_29 : decode cX10_text 29 = .ok (.goto 7, 3) := by decide +kernel
theorem dX10_text_32 : decode cX10_text 32 = .ok (.aload_n 0, 1) := by decide +kernel
theorem dX10_text_33 : decode cX10_text 33 = .ok (.getfield 85, 3) := by decide +kernel
theorem dX10_text_36 : decode cX10_text 36 = .ok (.putfield 26, 3) := by decide +kernel
theorem dX10_text_39 : decode cX10_text 39 = .ok (.aload_n 0, 1) := by decide +kernel
theorem dX10_text_40 : decode cX10_text 40 = .ok (.iconst 0, 1) := by decide +kernel
theorem dX10_text_41 : decode cX10_text 41 = .ok (.putfield 71, 3) := by decide +kernel
theorem dX10_text_44 : decode cX10_text 44 = .ok (.aload_n 0, 1) := by decide +kernel
theorem dX10_text_45 : decode cX10_text 45 = .ok (.getfield 22, 3) := by decide +kernel
theorem dX10_text_48 : decode cX10_text 48 = .ok (.ifCond .eq 5, 3) := by decide +kernel
theorem dX10_text_51 : decode cX10_text 51 = .ok (.iconst (-1), 1) := by decide +kernel
theorem dX10_text_52 : decode cX10_text 52 = .ok (.ireturn, 1) := by decide +kernel
theorem dX10_text_53 : decode cX10_text 53 = .ok (.aload_n 0, 1) := by decide +kernel
theorem dX10_text_54 : decode cX10_text 54 = .ok (.getfield 7, 3) := by decide +kernel
theorem dX10_text_57 : decode cX10_text 57 = .ok (.iconst 2, 1) := by decide +kernel
theorem dX10_text_58 : decode cX10_text 58 = .ok (.dup2, 1) := by decide +kernel
theorem dX10_text_59 : decode cX10_text 59 = .ok (.iaload, 1) := by decide +kernel
theorem dX10_text_60 : decode cX10_text 60 = .ok (.iconst 1, 1) := by decide +kernel
theorem dX10_text_61 : decode cX10_text 61 = .ok (.iadd, 1) := by decide +kernel
theorem dX10_text_62 : decode cX10_text 62 = .ok (.iastore, 1) := by decide +kernel
theorem dX10_text_63 : decode cX10_text 63 = .ok (.aload_n 0, 1) := by decide +kernel
theorem dX10_text_64 : decode cX10_text 64 = .ok (.getfield 7, 3) := by decide +kernel
theorem dX10_text_67 : decode cX10_text 67 = .ok (.iconst 2, 1) := by decide +kernel
theorem dX10_text_68 : decode cX10_text 68 = .ok (.iaload, 1) := by decide +kernel
theorem dX10_text_69 : decode cX10_text 69 = .ok (.iconst 1, 1) := by decide +kernel
theorem dX10_text_70 : decode cX10_text 70 = .ok (.isub, 1) := by decide +kernel
theorem dX10_text_71 : decode cX10_text 71 = .ok (.ireturn, 1) := by decide +kernel
theorem dX10_fault_0 : decode cX10_fault 0 = .ok (.iload_n 1, 1) := by decide +kernel
theorem dX10_fault_1 : decode cX10_fault 1 = .ok (.ifCond .ne 10, 3) := by decide +kernel
theorem dX10_fault_4 : decode cX10_fault 4 = .ok (.aload_n 0, 1) := by decide +kernel
theorem dX10_fault_5 : decode cX10_fault 5 = .ok (.getfield 22, 3) := by decide +kernel
theorem dX10_fault_8 : decode cX10_fault 8 = .ok (.goto 16, 3) := by decide +kernel
theorem dX10_fault_11 : decode cX10_fault 11 = .ok (.iload_n 1, 1) := by decide +kernel
theorem dX10_fault_12 : decode cX10_fault 12 = .ok (.iconst 1, 1) := by decide +kernel
theorem dX10_fault_13 : decode cX10_fault 13 = .ok (.if_icmp .ne 10, 3) := by decide +kernel
theorem dX10_fault_16 : decode cX10_fault 16 = .ok (.aload_n 0, 1) := by decide +kernel
theorem dX10_fault_17 : decode cX10_fault 17 = .ok (.getfield 26, 3) := by decide +kernel
theorem dX10_fault_20 : decode cX10_fault 20 = .ok (.goto 4, 3) := by decide +kernel
theorem dX10_fault_23 : decode cX10_fault 23 = .ok (.iconst (-1), 1) := by decide +kernel
theorem dX10_fault_24 : decode cX10_fault 24 = .ok (.ireturn, 1) := by decide +kernel
theorem dX10_by_0 : decode cX10_by 0 = .ok (.iload_n 1, 1) := by decide +kernel
theorem dX10_by_1 : decode cX10_by 1 = .ok (.iconst (-1), 1) := by decide +kernel
theorem dX10_by_2 : decode cX10_by 2 = .ok (.aload_n 0, 1) := by decide +kernel
theorem dX10_by_3 : decode cX10_by 3 = .ok (.getfield 7, 3) := by decide +kernel
theorem dX10_by_6 : decode cX10_by 6 = .ok (.iconst 2, 1) := by decide +kernel
theorem dX10_by_7 : decode cX10_by 7 = .ok (.iaload, 1) := by decide +kernel
theorem dX10_by_8 : decode cX10_by 8 = .ok (.iconst 1, 1) := by decide +kernel
theorem dX10_by_9 : decode cX10_by 9 = .ok (.isub, 1) := by decide +kernel
theorem dX10_by_10 : decode cX10_by 10 = .ok (.invokestatic 63, 3) := by decide +kernel
theorem dX10_by_13 : decode cX10_by 13 = .ok (.ifCond .ne 5, 3) := by decide +kernel
theorem dX10_by_16 : decode cX10_by 16 = .ok (.iconst 0, 1) := by decide +kernel
theorem dX10_by_17 : decode cX10_by 17 = .ok (.ireturn, 1) := by decide +kernel
theorem dX10_by_18 : decode cX10_by 18 = .ok (.aload_n 0, 1) := by decide +kernel
theorem dX10_by_19 : decode cX10_by 19 = .ok (.getfield 7, 3) := by decide +kernel
theorem dX10_by_22 : decode cX10_by 22 = .ok (.iconst 3, 1) := by decide +kernel
theorem dX10_by_23 : decode cX10_by 23 = .ok (.iload_n 1, 1) := by decide +kernel
theorem dX10_by_24 : decode cX10_by 24 = .ok (.iastore, 1) := by decide +kernel
theorem dX10_by_25 : decode cX10_by 25 = .ok (.iconst 1, 1) := by decide +kernel
theorem dX10_by_26 : decode cX10_by 26 = .ok (.ireturn, 1) := by decide +kernel
theorem dX10_clip_0 : decode cX10_clip 0 = .ok (.lload_n 0, 1) := by decide +kernel
theorem dX10_clip_1 : decode cX10_clip 1 = .ok (.ldc2_w 237, 3) := by decide +kernel
theorem dX10_clip_4 : decode cX10_clip 4 = .ok (.lcmp, 1) := by decide +kernel
theorem dX10_clip_5 : decode cX10_clip 5 = .ok (.ifCond .le 9, 3) := by decide +kernel
theorem dX10_clip_8 : decode cX10_clip 8 = .ok (.ldc2_w 237, 3) := by decide +kernel
theorem dX10_clip_11 : decode cX10_clip 11 = .ok (.goto 18, 3) := by decide +kernel
theorem dX10_clip_14 : decode cX10_clip 14 = .ok (.lload_n 0, 1) := by decide +kernel
theorem dX10_clip_15 : decode cX10_clip 15 = .ok (.ldc2_w 239, 3) := by decide +kernel
theorem dX10_clip_18 : decode cX10_clip 18 = .ok (.lcmp, 1) := by decide +kernel
theorem dX10_clip_19 : decode cX10_clip 19 = .ok (.ifCond .ge 9, 3) := by decide +kernel
theorem dX10_clip_22 : decode cX10_clip 22 = .ok (.ldc2_w 239, 3) := by decide +kernel
theorem dX10_clip_25 : decode cX10_clip 25 = .ok (.goto 4, 3) := by decide +kernel
theorem dX10_clip_28 : decode cX10_clip 28 = .ok (.lload_n 0, 1) := by decide +kernel
theorem dX10_clip_29 : decode cX10_clip 29 = .ok (.lreturn, 1) := by decide +kernel
theorem dX10_two_0 : decode cX10_two 0 = .ok (.iload_n 0, 1) := by decide +kernel
theorem dX10_two_1 : decode cX10_two 1 = .ok (.tableswitch 48 6 8 #[27, 34, 41], 27) := by decide +kernel
theorem dX10_two_28 : decode cX10_two 28 = .ok (.lload_n 1, 1) := by decide +kernel
theorem dX10_two_29 : decode cX10_two 29 = .ok (.lload_n 3, 1) := by decide +kernel
theorem dX10_two_30 : decode cX10_two 30 = .ok (.ladd, 1) := by decide +kernel
theorem dX10_two_31 : decode cX10_two 31 = .ok (.invokestatic 241, 3) := by decide +kernel
theorem dX10_two_34 : decode cX10_two 34 = .ok (.lreturn, 1) := by decide +kernel
theorem dX10_two_35 : decode cX10_two 35 = .ok (.lload_n 1, 1) := by decide +kernel
theorem dX10_two_36 : decode cX10_two 36 = .ok (.lload_n 3, 1) := by decide +kernel
theorem dX10_two_37 : decode cX10_two 37 = .ok (.lsub, 1) := by decide +kernel
theorem dX10_two_38 : decode cX10_two 38 = .ok (.invokestatic 241, 3) := by decide +kernel
theorem dX10_two_41 : decode cX10_two 41 = .ok (.lreturn, 1) := by decide +kernel
theorem dX10_two_42 : decode cX10_two 42 = .ok (.lload_n 1, 1) := by decide +kernel
theorem dX10_two_43 : decode cX10_two 43 = .ok (.lload_n 3, 1) := by decide +kernel
theorem dX10_two_44 : decode cX10_two 44 = .ok (.lmul, 1) := by decide +kernel
theorem dX10_two_45 : decode cX10_two 45 = .ok (.invokestatic 241, 3) := by decide +kernel
theorem dX10_two_48 : decode cX10_two 48 = .ok (.lreturn, 1) := by decide +kernel
theorem dX10_two_49 : decode cX10_two 49 = .ok (.lload_n 3, 1) := by decide +kernel
theorem dX10_two_50 : decode cX10_two 50 = .ok (.lconst 0, 1) := by decide +kernel
theorem dX10_two_51 : decode cX10_two 51 = .ok (.lcmp, 1) := by decide +kernel
theorem dX10_two_52 : decode cX10_two 52 = .ok (.ifCond .ne 7, 3) := by decide +kernel
theorem dX10_two_55 : decode cX10_two 55 = .ok (.lconst 0, 1) := by decide +kernel
theorem dX10_two_56 : decode cX10_two 56 = .ok (.goto 9, 3) := by decide +kernel
theorem dX10_two_59 : decode cX10_two 59 = .ok (.lload_n 1, 1) := by decide +kernel
theorem dX10_two_60 : decode cX10_two 60 = .ok (.lload_n 3, 1) := by decide +kernel
theorem dX10_two_61 : decode cX10_two 61 = .ok (.ldiv, 1) := by decide +kernel
theorem dX10_two_62 : decode cX10_two 62 = .ok (.invokestatic 241, 3) := by decide +kernel
theorem dX10_two_65 : decode cX10_two 65 = .ok (.lreturn, 1) := by decide +kernel
theorem dX10_isAsked_0 : decode cX10_isAsked 0 = .ok (.iload_n 0, 1) := by decide +kernel
theorem dX10_isAsked_1 : decode cX10_isAsked 1 = .ok (.bipush 10, 2) := by decide +kernel
theorem dX10_isAsked_3 : decode cX10_isAsked 3 = .ok (.if_icmp .ne 17, 3) := by decide +kernel
theorem dX10_isAsked_6 : decode cX10_isAsked 6 = .ok (.lload_n 1, 1) := by decide +kernel
theorem dX10_isAsked_7 : decode cX10_isAsked 7 = .ok (.lload_n 3, 1) := by decide +kernel
theorem dX10_isAsked_8 : decode cX10_isAsked 8 = .ok (.lcmp, 1) := by decide +kernel
theorem dX10_isAsked_9 : decode cX10_isAsked 9 = .ok (.ifCond .ge 7, 3) := by decide +kernel
theorem dX10_isAsked_12 : decode cX10_isAsked 12 = .ok (.iconst 1, 1) := by decide +kernel
theorem dX10_isAsked_13 : decode cX10_isAsked 13 = .ok (.goto 98, 3) := by decide +kernel
theorem dX10_isAsked_16 : decode cX10_isAsked 16 = .ok (.iconst 0, 1) := by decide +kernel
theorem dX10_isAsked_17 : decode cX10_isAsked 17 = .ok (.goto 94, 3) := by decide +kernel
theorem dX10_isAsked_20 : decode cX10_isAsked 20 = .ok (.iload_n 0, 1) := by decide +kernel
theorem dX10_isAsked_21 : decode cX10_isAsked 21 = .ok (.bipush 11, 2) := by decide +kernel
theorem dX10_isAsked_23 : decode cX10_isAsked 23 = .ok (.if_icmp .ne 17, 3) := by decide +kernel
theorem dX10_isAsked_26 : decode cX10_isAsked 26 = .ok (.lload_n 1, 1) := by decide +kernel
theorem dX10_isAsked_27 : decode cX10_isAsked 27 = .ok (.lload_n 3, 1) := by decide +kernel
theorem dX10_isAsked_28 : decode cX10_isAsked 28 = .ok (.lcmp, 1) := by decide +kernel
theorem dX10_isAsked_29 : decode cX10_isAsked 29 = .ok (.ifCond .gt 7, 3) := by decide +kernel
theorem dX10_isAsked_32 : decode cX10_isAsked 32 = .ok (.iconst 1, 1) := by decide +kernel
theorem dX10_isAsked_33 : decode cX10_isAsked 33 = .ok (.goto 78, 3) := by decide +kernel
theorem dX10_isAsked_36 : decode cX10_isAsked 36 = .ok (.iconst 0, 1) := by decide +kernel
theorem dX10_isAsked_37 : decode cX10_isAsked 37 = .ok (.goto 74, 3) := by decide +kernel
theorem dX10_isAsked_40 : decode cX10_isAsked 40 = .ok (.iload_n 0, 1) := by decide +kernel
theorem dX10_isAsked_41 : decode cX10_isAsked 41 = .ok (.bipush 12, 2) := by decide +kernel
theorem dX10_isAsked_43 : decode cX10_isAsked 43 = .ok (.if_icmp .ne 17, 3) := by decide +kernel
theorem dX10_isAsked_46 : decode cX10_isAsked 46 = .ok (.lload_n 1, 1) := by decide +kernel
theorem dX10_isAsked_47 : decode cX10_isAsked 47 = .ok (.lload_n 3, 1) := by decide +kernel
theorem dX10_isAsked_48 : decode cX10_isAsked 48 = .ok (.lcmp, 1) := by decide +kernel
theorem dX10_isAsked_49 : decode cX10_isAsked 49 = .ok (.ifCond .le 7, 3) := by decide +kernel
theorem dX10_isAsked_52 : decode cX10_isAsked 52 = .ok (.iconst 1, 1) := by decide +kernel
theorem dX10_isAsked_53 : decode cX10_isAsked 53 = .ok (.goto 58, 3) := by decide +kernel
theorem dX10_isAsked_56 : decode cX10_isAsked 56 = .ok (.iconst 0, 1) := by decide +kernel
theorem dX10_isAsked_57 : decode cX10_isAsked 57 = .ok (.goto 54, 3) := by decide +kernel
theorem dX10_isAsked_60 : decode cX10_isAsked 60 = .ok (.iload_n 0, 1) := by decide +kernel
theorem dX10_isAsked_61 : decode cX10_isAsked 61 = .ok (.bipush 13, 2) := by decide +kernel
theorem dX10_isAsked_63 : decode cX10_isAsked 63 = .ok (.if_icmp .ne 17, 3) := by decide +kernel
theorem dX10_isAsked_66 : decode cX10_isAsked 66 = .ok (.lload_n 1, 1) := by decide +kernel
theorem dX10_isAsked_67 : decode cX10_isAsked 67 = .ok (.lload_n 3, 1) := by decide +kernel
theorem dX10_isAsked_68 : decode cX10_isAsked 68 = .ok (.lcmp, 1) := by decide +kernel
theorem dX10_isAsked_69 : decode cX10_isAsked 69 = .ok (.ifCond .lt 7, 3) := by decide +kernel
theorem dX10_isAsked_72 : decode cX10_isAsked 72 = .ok (.iconst 1, 1) := by decide +kernel
theorem dX10_isAsked_73 : decode cX10_isAsked 73 = .ok (.goto 38, 3) := by decide +kernel
theorem dX10_isAsked_76 : decode cX10_isAsked 76 = .ok (.iconst 0, 1) := by decide +kernel
theorem dX10_isAsked_77 : decode cX10_isAsked 77 = .ok (.goto 34, 3) := by decide +kernel
theorem dX10_isAsked_80 : decode cX10_isAsked 80 = .ok (.iload_n 0, 1) := by decide +kernel
theorem dX10_isAsked_81 : decode cX10_isAsked 81 = .ok (.bipush 14, 2) := by decide +kernel
theorem dX10_isAsked_83 : decode cX10_isAsked 83 = .ok (.if_icmp .ne 17, 3) := by decide +kernel
theorem dX10_isAsked_86 : decode cX10_isAsked 86 = .ok (.lload_n 1, 1) := by decide +kernel
theorem dX10_isAsked_87 : decode cX10_isAsked 87 = .ok (.lload_n 3, 1) := by decide +kernel
theorem dX10_isAsked_88 : decode cX10_isAsked 88 = .ok (.lcmp, 1) := by decide +kernel
theorem dX10_isAsked_89 : decode cX10_isAsked 89 = .ok (.ifCond .ne 7, 3) := by decide +kernel
theorem dX10_isAsked_92 : decode cX10_isAsked 92 = .ok (.iconst 1, 1) := by decide +kernel
theorem dX10_isAsked_93 : decode cX10_isAsked 93 = .ok (.goto 18, 3) := by decide +kernel
theorem dX10_isAsked_96 : decode cX10_isAsked 96 = .ok (.iconst 0, 1) := by decide +kernel
theorem dX10_isAsked_97 : decode cX10_isAsked 97 = .ok (.goto 14, 3) := by decide +kernel
theorem dX10_isAsked_100 : decode cX10_isAsked 100 = .ok (.lload_n 1, 1) := by decide +kernel
theorem dX10_isAsked_101 : decode cX10_isAsked 101 = .ok (.lload_n 3, 1) := by decide +kernel
theorem dX10_isAsked_102 : decode cX10_isAsked 102 = .ok (.lcmp, 1) := by decide +kernel
theorem dX10_isAsked_103 : decode cX10_isAsked 103 = .ok (.ifCond .eq 7, 3) := by decide +kernel
theorem dX10_isAsked_106 : decode cX10_isAsked 106 = .ok (.iconst 1, 1) := by decide +kernel
theorem dX10_isAsked_107 : decode cX10_isAsked 107 = .ok (.goto 4, 3) := by decide +kernel
theorem dX10_isAsked_110 : decode cX10_isAsked 110 = .ok (.iconst 0, 1) := by decide +kernel
theorem dX10_isAsked_111 : decode cX10_isAsked 111 = .ok (.ireturn, 1) := by decide +kernel
theorem dX10_sheetOf_0 : decode cX10_sheetOf 0 = .ok (.lload_n 1, 1) := by decide +kernel
theorem dX10_sheetOf_1 : decode cX10_sheetOf 1 = .ok (.lconst 0, 1) := by decide +kernel
theorem dX10_sheetOf_2 : decode cX10_sheetOf 2 = .ok (.lcmp, 1) := by decide +kernel
theorem dX10_sheetOf_3 : decode cX10_sheetOf 3 = .ok (.ifCond .lt 25, 3) := by decide +kernel
theorem dX10_sheetOf_6 : decode cX10_sheetOf 6 = .ok (.lload_n 1, 1) := by decide +kernel
theorem dX10_sheetOf_7 : decode cX10_sheetOf 7 = .ok (.ldc2_w 245, 3) := by decide +kernel
theorem dX10_sheetOf_10 : decode cX10_sheetOf 10 = .ok (.lcmp, 1) := by decide +kernel
theorem dX10_sheetOf_11 : decode cX10_sheetOf 11 = .ok (.ifCond .ge 17, 3) := by decide +kernel
theorem dX10_sheetOf_14 : decode cX10_sheetOf 14 = .ok (.aload_n 0, 1) := by decide +kernel
theorem dX10_sheetOf_15 : decode cX10_sheetOf 15 = .ok (.getfield 7, 3) := by decide +kernel
theorem dX10_sheetOf_18 : decode cX10_sheetOf 18 = .ok (.bipush 11, 2) := by decide +kernel
theorem dX10_sheetOf_20 : decode cX10_sheetOf 20 = .ok (.lload_n 1, 1) := by decide +kernel
theorem dX10_sheetOf_21 : decode cX10_sheetOf 21 = .ok (.l2i, 1) := by decide +kernel
theorem dX10_sheetOf_22 : decode cX10_sheetOf 22 = .ok (.iadd, 1) := by decide +kernel
theorem dX10_sheetOf_23 : decode cX10_sheetOf 23 = .ok (.iaload, 1) := by decide +kernel
theorem dX10_sheetOf_24 : decode cX10_sheetOf 24 = .ok (.i2l, 1) := by decide +kernel
theorem dX10_sheetOf_25 : decode cX10_sheetOf 25 = .ok (.goto 4, 3) := by decide +kernel
theorem dX10_sheetOf_28 : decode cX10_sheetOf 28 = .ok (.lconst 0, 1) := by decide +kernel
theorem dX10_sheetOf_29 : decode cX10_sheetOf 29 = .ok (.lreturn, 1) := by decide +kernel
theorem dX10_ofOne_0 : decode cX10_ofOne 0 = .ok (.iload_n 1, 1) := by decide +kernel
theorem dX10_ofOne_1 : decode cX10_ofOne 1 = .ok (.iconst 5, 1) := by decide +kernel
theorem dX10_ofOne_2 : decode cX10_ofOne 2 = .ok (.if_icmp .ne 8, 3) := by decide +kernel
theorem dX10_ofOne_5 : decode cX10_ofOne 5 = .ok (.lload_n 2, 1) := by decide +kernel
theorem dX10_ofOne_6 : decode cX10_ofOne 6 = .ok (.lneg, 1) := by decide +kernel
theorem dX10_ofOne_7 : decode cX10_ofOne 7 = .ok (.goto 23, 3) := by decide +kernel
theorem dX10_ofOne_10 : decode cX10_ofOne 10 = .ok (.iload_n 1, 1) := by decide +kernel
theorem dX10_ofOne_11 : decode cX10_ofOne 11 = .ok (.iconst 4, 1) := by decide +kernel
theorem dX10_ofOne_12 : decode cX10_ofOne 12 = .ok (.if_icmp .ne 13, 3) := by decide +kernel
theorem dX10_ofOne_15 : decode cX10_ofOne 15 = .ok (.bipush 8, 2) := by decide +kernel
theorem dX10_ofOne_17 : decode cX10_ofOne 17 = .ok (.lload_n 2, 1) := by decide +kernel
theorem dX10_ofOne_18 : decode cX10_ofOne 18 = .ok (.lload_n 2, 1) := by decide +kernel
theorem dX10_ofOne_19 : decode cX10_ofOne 19 = .ok (.invokestatic 247, 3) := by decide +kernel
theorem dX10_ofOne_22 : decode cX10_ofOne 22 = .ok (.goto 8, 3) := by decide +kernel
theorem dX10_ofOne_25 : decode cX10_ofOne 25 = .ok (.aload_n 0, 1) := by decide +kernel
theorem dX10_ofOne_26 : decode cX10_ofOne 26 = .ok (.lload_n 2, 1) := by decide +kernel
theorem dX10_ofOne_27 : decode cX10_ofOne 27 = .ok (.invokevirtual 251, 3) := by decide +kernel
theorem dX10_ofOne_30 : decode cX10_ofOne 30 = .ok (.lreturn, 1) := by decide +kernel
theorem dX10_joined_0 : decode cX10_joined 0 = .ok (.iload_n 0, 1) := by decide +kernel
theorem dX10_joined_1 : decode cX10_joined 1 = .ok (.bipush 21, 2) := by decide +kernel
theorem dX10_joined_3 : decode cX10_joined 3 = .ok (.if_icmp .ne 19, 3) := by decide +kernel
theorem dX10_joined_6 : decode cX10_joined 6 = .ok (.iload_n 1, 1) := by decide +kernel
theorem dX10_joined_7 : decode cX10_joined 7 = .ok (.ifCond .eq 11, 3) := by decide +kernel
theorem dX10_joined_10 : decode cX10_joined 10 = .ok (.iload_n 2, 1) := by decide +kernel
theorem dX10_joined_11 : decode cX10_joined 11 = .ok (.ifCond .eq 7, 3) := by decide +kernel
theorem dX10_joined_14 : decode cX10_joined 14 = .ok (.iconst 1, 1) := by decide +kernel
theorem dX10_joined_15 : decode cX10_joined 15 = .ok (.goto 20, 3) := by decide +kernel
theorem dX10_joined_18 : decode cX10_joined 18 = .ok (.iconst 0, 1) := by decide +kernel
theorem dX10_joined_19 : decode cX10_joined 19 = .ok (.goto 16, 3) := by decide +kernel
theorem dX10_joined_22 : decode cX10_joined 22 = .ok (.iload_n 1, 1) := by decide +kernel
theorem dX10_joined_23 : decode cX10_joined 23 = .ok (.ifCond .ne 7, 3) := by decide +kernel
theorem dX10_joined_26 : decode cX10_joined 26 = .ok (.iload_n 2, 1) := by decide +kernel
theorem dX10_joined_27 : decode cX10_joined 27 = .ok (.ifCond .eq 7, 3) := by decide +kernel
theorem dX10_joined_30 : decode cX10_joined 30 = .ok (.iconst 1, 1) := by decide +kernel
theorem dX10_joined_31 : decode cX10_joined 31 = .ok (.goto 4, 3) := by decide +kernel
theorem dX10_joined_34 : decode cX10_joined 34 = .ok (.iconst 0, 1) := by decide +kernel
theorem dX10_joined_35 : decode cX10_joined 35 = .ok (.ireturn, 1) := by decide +kernel
theorem dX10_summedUp_0 : decode cX10_summedUp 0 = .ok (.sipush 681, 3) := by decide +kernel
theorem dX10_summedUp_3 : decode cX10_summedUp 3 = .ok (.iload_n 1, 1) := by decide +kernel
theorem dX10_summedUp_4 : decode cX10_summedUp 4 = .ok (.imul, 1) := by decide +kernel
theorem dX10_summedUp_5 : decode cX10_summedUp 5 = .ok (.iconst 1, 1) := by decide +kernel
theorem dX10_summedUp_6 : decode cX10_summedUp 6 = .ok (.iadd, 1) := by decide +kernel
theorem dX10_summedUp_7 : decode cX10_summedUp 7 = .ok (.iconst 3, 1) := by decide +kernel
theorem dX10_summedUp_8 : decode cX10_summedUp 8 = .ok (.iload_n 2, 1) := by decide +kernel
theorem dX10_summedUp_9 : decode cX10_summedUp 9 = .ok (.imul, 1) := by decide +kernel
theorem dX10_summedUp_10 : decode cX10_summedUp 10 = .ok (.iadd, 1) := by decide +kernel
theorem dX10_summedUp_11 : decode cX10_summedUp 11 = .ok (.istore_n 3, 1) := by decide +kernel
theorem dX10_summedUp_12 : decode cX10_summedUp 12 = .ok (.sipush 681, 3) := by decide +kernel
theorem dX10_summedUp_15 : decode cX10_summedUp 15 = .ok (.iload_n 1, 1) := by decide +kernel
theorem dX10_summedUp_16 : decode cX10_summedUp 16 = .ok (.imul, 1) := by decide +kernel
theorem dX10_summedUp_17 : decode cX10_summedUp 17 = .ok (.bipush 73, 2) := by decide +kernel
theorem dX10_summedUp_19 : decode cX10_summedUp 19 = .ok (.iadd, 1) := by decide +kernel
theorem dX10_summedUp_20 : decode cX10_summedUp 20 = .ok (.istore 4, 2) := by decide +kernel
theorem dX10_summedUp_22 : decode cX10_summedUp 22 = .ok (.iconst 0, 1) := by decide +kernel
theorem dX10_summedUp_23 : decode cX10_summedUp 23 = .ok (.istore 5, 2) := by decide +kernel
theorem dX10_summedUp_25 : decode cX10_summedUp 25 = .ok (.iconst 0, 1) := by decide +kernel
theorem dX10_summedUp_26 : decode cX10_summedUp 26 = .ok (.istore 6, 2) := by decide +kernel
theorem dX10_summedUp_28 : decode cX10_summedUp 28 = .ok (.aload_n 0, 1) := by decide +kernel
theorem dX10_summedUp_29 : decode cX10_summedUp 29 = .ok (.getfield 16, 3) := by decide +kernel
theorem dX10_summedUp_32 : decode cX10_summedUp 32 = .ok (.iload_n 3, 1) := by decide +kernel
theorem dX10_summedUp_33 : decode cX10_summedUp 33 = .ok (.iconst 1, 1) := by decide +kernel
theorem dX10_summedUp_34 : decode cX10_summedUp 34 = .ok (.iadd, 1) := by decide +kernel
theorem dX10_summedUp_35 : decode cX10_summedUp 35 = .ok (.iaload, 1) := by decide +kernel
theorem dX10_summedUp_36 : decode cX10_summedUp 36 = .ok (.istore 7, 2) := by decide +kernel
theorem dX10_summedUp_38 : decode cX10_summedUp 38 = .ok (.iload 7, 2) := by decide +kernel
theorem dX10_summedUp_40 : decode cX10_summedUp 40 = .ok (.aload_n 0, 1) := by decide +kernel
theorem dX10_summedUp_41 : decode cX10_summedUp 41 = .ok (.getfield 16, 3) := by decide +kernel
theorem dX10_summedUp_44 : decode cX10_summedUp 44 = .ok (.iload_n 3, 1) := by decide +kernel
theorem dX10_summedUp_45 : decode cX10_summedUp 45 = .ok (.iconst 2, 1) := by decide +kernel
theorem dX10_summedUp_46 : decode cX10_summedUp 46 = .ok (.iadd, 1) := by decide +kernel
theorem dX10_summedUp_47 : decode cX10_summedUp 47 = .ok (.iaload, 1) := by decide +kernel
theorem dX10_summedUp_48 : decode cX10_summedUp 48 = .ok (.if_icmp .ge 307, 3) := by decide +kernel
theorem dX10_summedUp_51 : decode cX10_summedUp 51 = .ok (.aload_n 0, 1) := by decide +kernel
theorem dX10_summedUp_52 : decode cX10_summedUp 52 = .ok (.getfield 16, 3) := by decide +kernel
theorem dX10_summedUp_55 : decode cX10_summedUp 55 = .ok (.iload 4, 2) := by decide +kernel
theorem dX10_summedUp_57 : decode cX10_summedUp 57 = .ok (.iconst 2, 1) := by decide +kernel
theorem dX10_summedUp_58 : decode cX10_summedUp 58 = .ok (.iload 7, 2) := by decide +kernel
theorem dX10_summedUp_60 : decode cX10_summedUp 60 = .ok (.imul, 1) := by decide +kernel
theorem dX10_summedUp_61 : decode cX10_summedUp 61 = .ok (.iadd, 1) := by decide +kernel
theorem dX10_summedUp_62 : decode cX10_summedUp 62 = .ok (.iaload, 1) := by decide +kernel
theorem dX10_summedUp_63 : decode cX10_summedUp 63 = .ok (.istore 8, 2) := by decide +kernel
theorem dX10_summedUp_65 : decode cX10_summedUp 65 = .ok (.aload_n 0, 1) := by decide +kernel
theorem dX10_summedUp_66 : decode cX10_summedUp 66 = .ok (.getfield 16, 3) := by decide +kernel
theorem dX10_summedUp_69 : decode cX10_summedUp 69 = .ok (.iload 4, 2) := by decide +kernel
theorem dX10_summedUp_71 : decode cX10_summedUp 71 = .ok (.iconst 2, 1) := by decide +kernel
theorem dX10_summedUp_72 : decode cX10_summedUp 72 = .ok (.iload 7, 2) := by decide +kernel
theorem dX10_summedUp_74 : decode cX10_summedUp 74 = .ok (.imul, 1) := by decide +kernel
theorem dX10_summedUp_75 : decode cX10_summedUp 75 = .ok (.iadd, 1) := by decide +kernel
theorem dX10_summedUp_76 : decode cX10_summedUp 76 = .ok (.iconst 1, 1) := by decide +kernel
theorem dX10_summedUp_77 : decode cX10_summedUp 77 = .ok (.iadd, 1) := by decide +kernel
theorem dX10_summedUp_78 : decode cX10_summedUp 78 = .ok (.iaload, 1) := by decide +kernel
theorem dX10_summedUp_79 : decode cX10_summedUp 79 = .ok (.istore 9, 2) := by decide +kernel
theorem dX10_summedUp_81 : decode cX10_summedUp 81 = .ok (.iload 8, 2) := by decide +kernel
theorem dX10_summedUp_83 : decode cX10_summedUp 83 = .ok (.iconst 1, 1) := by decide +kernel
theorem dX10_summedUp_84 : decode cX10_summedUp 84 = .ok (.if_icmp .gt 35, 3) := by decide +kernel
theorem dX10_summedUp_87 : decode cX10_summedUp 87 = .ok (.aload_n 0, 1) := by decide +kernel
theorem dX10_summedUp_88 : decode cX10_summedUp 88 = .ok (.getfield 35, 3) := by decide +kernel
theorem dX10_summedUp_91 : decode cX10_summedUp 91 = .ok (.iload 5, 2) := by decide +kernel
theorem dX10_summedUp_93 : decode cX10_summedUp 93 = .ok (.iload 8, 2) := by decide +kernel
theorem dX10_summedUp_95 : decode cX10_summedUp 95 = .ok (.ifCond .ne 9, 3) := by decide +kernel
theorem dX10_summedUp_98 : decode cX10_summedUp 98 = .ok (.iload 9, 2) := by decide +kernel
theorem dX10_summedUp_100 : decode cX10_summedUp 100 = .ok (.i2l, 1) := by decide +kernel
theorem dX10_summedUp_101 : decode cX10_summedUp 101 = .ok (.goto 11, 3) := by decide +kernel
theorem dX10_summedUp_104 : decode cX10_summedUp 104 = .ok (.aload_n 0, 1) := by decide +kernel
theorem dX10_summedUp_105 : decode cX10_summedUp 105 = .ok (.getfield 32, 3) := by decide +kernel
theorem dX10_summedUp_108 : decode cX10_summedUp 108 = .ok (.iload 9, 2) := by decide +kernel
theorem dX10_summedUp_110 : decode cX10_summedUp 110 = .ok (.iaload, 1) := by decide +kernel
theorem dX10_summedUp_111 : decode cX10_summedUp 111 = .ok (.i2l, 1) := by decide +kernel
theorem dX10_summedUp_112 : decode cX10_summedUp 112 = .ok (.lastore, 1) := by decide +kernel
theorem dX10_summedUp_113 : decode cX10_summedUp 113 = .ok (.iinc 5 1, 3) := by decide +kernel
theorem dX10_summedUp_116 : decode cX10_summedUp 116 = .ok (.goto 233, 3) := by decide +kernel
theorem dX10_summedUp_119 : decode cX10_summedUp 119 = .ok (.iload 8, 2) := by decide +kernel
theorem dX10_summedUp_121 : decode cX10_summedUp 121 = .ok (.iconst 3, 1) := by decide +kernel
theorem dX10_summedUp_122 : decode cX10_summedUp 122 = .ok (.if_icmp .ne 38, 3) := by decide +kernel
theorem dX10_summedUp_125 : decode cX10_summedUp 125 = .ok (.iinc 5 (-1), 3) := by decide +kernel
theorem dX10_summedUp_128 : decode cX10_summedUp 128 = .ok (.iinc 6 (-1), 3) := by decide +kernel
theorem dX10_summedUp_131 : decode cX10_summedUp 131 = .ok (.aload_n 0, 1) := by decide +kernel
theorem dX10_summedUp_132 : decode cX10_summedUp 132 = .ok (.getfield 39, 3) := by decide +kernel
theorem dX10_summedUp_135 : decode cX10_summedUp 135 = .ok (.iload 6, 2) := by decide +kernel
theorem dX10_summedUp_137 : decode cX10_summedUp 137 = .ok (.baload, 1) := by decide +kernel
theorem dX10_summedUp_138 : decode cX10_summedUp 138 = .ok (.ifCond .ne 211, 3) := by decide +kernel
theorem dX10_summedUp_141 : decode cX10_summedUp 141 = .ok (.aload_n 0, 1) := by decide +kernel
theorem dX10_summedUp_142 : decode cX10_summedUp 142 = .ok (.getfield 35, 3) := by decide +kernel
theorem dX10_summedUp_145 : decode cX10_summedUp 145 = .ok (.iload 5, 2) := by decide +kernel
theorem dX10_summedUp_147 : decode cX10_summedUp 147 = .ok (.iconst 1, 1) := by decide +kernel
theorem dX10_summedUp_148 : decode cX10_summedUp 148 = .ok (.isub, 1) := by decide +kernel
theorem dX10_summedUp_149 : decode cX10_summedUp 149 = .ok (.aload_n 0, 1) := by decide +kernel
theorem dX10_summedUp_150 : decode cX10_summedUp 150 = .ok (.getfield 35, 3) := by decide +kernel
theorem dX10_summedUp_153 : decode cX10_summedUp 153 = .ok (.iload 5, 2) := by decide +kernel
theorem dX10_summedUp_155 : decode cX10_summedUp 155 = .ok (.laload, 1) := by decide +kernel
theorem dX10_summedUp_156 : decode cX10_summedUp 156 = .ok (.lastore, 1) := by decide +kernel
theorem dX10_summedUp_157 : decode cX10_summedUp 157 = .ok (.goto 192, 3) := by decide +kernel
theorem dX10_summedUp_160 : decode cX10_summedUp 160 = .ok (.iload 8, 2) := by decide +kernel
theorem dX10_summedUp_162 : decode cX10_summedUp 162 = .ok (.iconst 5, 1) := by decide +kernel
theorem dX10_summedUp_163 : decode cX10_summedUp 163 = .ok (.if_icmp .gt 30, 3) := by decide +kernel
theorem dX10_summedUp_166 : decode cX10_summedUp 166 = .ok (.aload_n 0, 1) := by decide +kernel
theorem dX10_summedUp_167 : decode cX10_summedUp 167 = .ok (.getfield 35, 3) := by decide +kernel
theorem dX10_summedUp_170 : decode cX10_summedUp 170 = .ok (.iload 5, 2) := by decide +kernel
theorem dX10_summedUp_172 : decode cX10_summedUp 172 = .ok (.iconst 1, 1) := by decide +kernel
theorem dX10_summedUp_173 : decode cX10_summedUp 173 = .ok (.isub, 1) := by decide +kernel
theorem dX10_summedUp_174 : decode cX10_summedUp 174 = .ok (.aload_n 0, 1) := by decide +kernel
theorem dX10_summedUp_175 : decode cX10_summedUp 175 = .ok (.iload 8, 2) := by decide +kernel
theorem dX10_summedUp_177 : decode cX10_summedUp 177 = .ok (.aload_n 0, 1) := by decide +kernel
theorem dX10_summedUp_178 : decode cX10_summedUp 178 = .ok (.getfield 35, 3) := by decide +kernel
theorem dX10_summedUp_181 : decode cX10_summedUp 181 = .ok (.iload 5, 2) := by decide +kernel
theorem dX10_summedUp_183 : decode cX10_summedUp 183 = .ok (.iconst 1, 1) := by decide +kernel
theorem dX10_summedUp_184 : decode cX10_summedUp 184 = .ok (.isub, 1) := by decide +kernel
theorem dX10_summedUp_185 : decode cX10_summedUp 185 = .ok (.laload, 1) := by decide +kernel
theorem dX10_summedUp_186 : decode cX10_summedUp 186 = .ok (.invokevirtual 254, 3) := by decide +kernel
theorem dX10_summedUp_189 : decode cX10_summedUp 189 = .ok (.lastore, 1) := by decide +kernel
theorem dX10_summedUp_190 : decode cX10_summedUp 190 = .ok (.goto 159, 3) := by decide +kernel
theorem dX10_summedUp_193 : decode cX10_summedUp 193 = .ok (.iload 8, 2) := by decide +kernel
theorem dX10_summedUp_195 : decode cX10_summedUp 195 = .ok (.bipush 10, 2) := by decide +kernel
theorem dX10_summedUp_197 : decode cX10_summedUp 197 = .ok (.if_icmp .ge 39, 3) := by decide +kernel
theorem dX10_summedUp_200 : decode cX10_summedUp 200 = .ok (.iinc 5 (-1), 3) := by decide +kernel
theorem dX10_summedUp_203 : decode cX10_summedUp 203 = .ok (.aload_n 0, 1) := by decide +kernel
theorem dX10_summedUp_204 : decode cX10_summedUp 204 = .ok (.getfield 35, 3) := by decide +kernel
theorem dX10_summedUp_207 : decode cX10_summedUp 207 = .ok (.iload 5, 2) := by decide +kernel
theorem dX10_summedUp_209 : decode cX10_summedUp 209 = .ok (.iconst 1, 1) := by decide +kernel
theorem dX10_summedUp_210 : decode cX10_summedUp 210 = .ok (.isub, 1) := by decide +kernel
theorem dX10_summedUp_211 : decode cX10_summedUp 211 = .ok (.iload 8, 2) := by decide +kernel
theorem dX10_summedUp_213 : decode cX10_summedUp 213 = .ok (.aload_n 0, 1) := by decide +kernel
theorem dX10_summedUp_214 : decode cX10_summedUp 214 = .ok (.getfield 35, 3) := by decide +kernel
theorem dX10_summedUp_217 : decode cX10_summedUp 217 = .ok (.iload 5, 2) := by decide +kernel
theorem dX10_summedUp_219 : decode cX10_summedUp 219 = .ok (.iconst 1, 1) := by decide +kernel
theorem dX10_summedUp_220 : decode cX10_summedUp 220 = .ok (.isub, 1) := by decide +kernel
theorem dX10_summedUp_221 : decode cX10_summedUp 221 = .ok (.laload, 1) := by decide +kernel
theorem dX10_summedUp_222 : decode cX10_summedUp 222 = .ok (.aload_n 0, 1) := by decide +kernel
theorem dX10_summedUp_223 : decode cX10_summedUp 223 = .ok (.getfield 35, 3) := by decide +kernel
theorem dX10_summedUp_226 : decode cX10_summedUp 226 = .ok (.iload 5, 2) := by decide +kernel
theorem dX10_summedUp_228 : decode cX10_summedUp 228 = .ok (.laload, 1) := by decide +kernel
theorem dX10_summedUp_229 : decode cX10_summedUp 229 = .ok (.invokestatic 247, 3) := by decide +kernel
theorem dX10_summedUp_232 : decode cX10_summedUp 232 = .ok (.lastore, 1) := by decide +kernel
theorem dX10_summedUp_233 : decode cX10_summedUp 233 = .ok (.goto 116, 3) := by decide +kernel
theorem dX10_summedUp_236 : decode cX10_summedUp 236 = .ok (.iload 8, 2) := by decide +kernel
theorem dX10_summedUp_238 : decode cX10_summedUp 238 = .ok (.bipush 20, 2) := by decide +kernel
theorem dX10_summedUp_240 : decode cX10_summedUp 240 = .ok (.if_icmp .ge 40, 3) := by decide +kernel
theorem dX10_summedUp_243 : decode cX10_summedUp 243 = .ok (.iinc 5 (-2), 3) := by decide +kernel
theorem dX10_summedUp_246 : decode cX10_summedUp 246 = .ok (.aload_n 0, 1) := by decide +kernel
theorem dX10_summedUp_247 : decode cX10_summedUp 247 = .ok (.getfield 39, 3) := by decide +kernel
theorem dX10_summedUp_250 : decode cX10_summedUp 250 = .ok (.iload 6, 2) := by decide +kernel
theorem dX10_summedUp_252 : decode cX10_summedUp 252 = .ok (.iload 8, 2) := by decide +kernel
theorem dX10_summedUp_254 : decode cX10_summedUp 254 = .ok (.aload_n 0, 1) := by decide +kernel
theorem dX10_summedUp_255 : decode cX10_summedUp 255 = .ok (.getfield 35, 3) := by decide +kernel
theorem dX10_summedUp_258 : decode cX10_summedUp 258 = .ok (.iload 5, 2) := by decide +kernel
theorem dX10_summedUp_260 : decode cX10_summedUp 260 = .ok (.laload, 1) := by decide +kernel
theorem dX10_summedUp_261 : decode cX10_summedUp 261 = .ok (.aload_n 0, 1) := by decide +kernel
theorem dX10_summedUp_262 : decode cX10_summedUp 262 = .ok (.getfield 35, 3) := by decide +kernel
theorem dX10_summedUp_265 : decode cX10_summedUp 265 = .ok (.iload 5, 2) := by decide +kernel
theorem dX10_summedUp_267 : decode cX10_summedUp 267 = .ok (.iconst 1, 1) := by decide +kernel
theorem dX10_summedUp_268 : decode cX10_summedUp 268 = .ok (.iadd, 1) := by decide +kernel
theorem dX10_summedUp_269 : decode cX10_summedUp 269 = .ok (.laload, 1) := by decide +kernel
theorem dX10_summedUp_270 : decode cX10_summedUp 270 = .ok (.invokestatic 258, 3) := by decide +kernel
theorem dX10_summedUp_273 : decode cX10_summedUp 273 = .ok (.bastore, 1) := by decide +kernel
theorem dX10_summedUp_274 : decode cX10_summedUp 274 = .ok (.iinc 6 1, 3) := by decide +kernel
theorem dX10_summedUp_277 : decode cX10_summedUp 277 = .ok (.goto 72, 3) := by decide +kernel
theorem dX10_summedUp_280 : decode cX10_summedUp 280 = .ok (.iload 8, 2) := by decide +kernel
theorem dX10_summedUp_282 : decode cX10_summedUp 282 = .ok (.bipush 20, 2) := by decide +kernel
theorem dX10_summedUp_284 : decode cX10_summedUp 284 = .ok (.if_icmp .ne 32, 3) := by decide +kernel
theorem dX10_summedUp_287 : decode cX10_summedUp 287 = .ok (.aload_n 0, 1) := by decide +kernel
theorem dX10_summedUp_288 : decode cX10_summedUp 288 = .ok (.getfield 39, 3) := by decide +kernel
theorem dX10_summedUp_291 : decode cX10_summedUp 291 = .ok (.iload 6, 2) := by decide +kernel
theorem dX10_summedUp_293 : decode cX10_summedUp 293 = .ok (.iconst 1, 1) := by decide +kernel
theorem dX10_summedUp_294 : decode cX10_summedUp 294 = .ok (.isub, 1) := by decide +kernel
theorem dX10_summedUp_295 : decode cX10_summedUp 295 = .ok (.aload_n 0, 1) := by decide +kernel
theorem dX10_summedUp_296 : decode cX10_summedUp 296 = .ok (.getfield 39, 3) := by decide +kernel
theorem dX10_summedUp_299 : decode cX10_summedUp 299 = .ok (.iload 6, 2) := by decide +kernel
theorem dX10_summedUp_301 : decode cX10_summedUp 301 = .ok (.iconst 1, 1) := by decide +kernel
theorem dX10_summedUp_302 : decode cX10_summedUp 302 = .ok (.isub, 1) := by decide +kernel
theorem dX10_summedUp_303 : decode cX10_summedUp 303 = .ok (.baload, 1) := by decide +kernel
theorem dX10_summedUp_304 : decode cX10_summedUp 304 = .ok (.ifCond .ne 7, 3) := by decide +kernel
theorem dX10_summedUp_307 : decode cX10_summedUp 307 = .ok (.iconst 1, 1) := by decide +kernel
theorem dX10_summedUp_308 : decode cX10_summedUp 308 = .ok (.goto 4, 3) := by decide +kernel
theorem dX10_summedUp_311 : decode cX10_summedUp 311 = .ok (.iconst 0, 1) := by decide +kernel
theorem dX10_summedUp_312 : decode cX10_summedUp 312 = .ok (.bastore, 1) := by decide +kernel
theorem dX10_summedUp_313 : decode cX10_summedUp 313 = .ok (.goto 36, 3) := by decide +kernel
theorem dX10_summedUp_316 : decode cX10_summedUp 316 = .ok (.iinc 6 (-1), 3) := by decide +kernel
theorem dX10_summedUp_319 : decode cX10_summedUp 319 = .ok (.aload_n 0, 1) := by decide +kernel
theorem dX10_summedUp_320 : decode cX10_summedUp 320 = .ok (.getfield 39, 3) := by decide +kernel
theorem dX10_summedUp_323 : decode cX10_summedUp 323 = .ok (.iload 6, 2) := by decide +kernel
theorem dX10_summedUp_325 : decode cX10_summedUp 325 = .ok (.iconst 1, 1) := by decide +kernel
theorem dX10_summedUp_326 : decode cX10_summedUp 326 = .ok (.isub, 1) := by decide +kernel
theorem dX10_summedUp_327 : decode cX10_summedUp 327 = .ok (.iload 8, 2) := by decide +kernel
theorem dX10_summedUp_329 : decode cX10_summedUp 329 = .ok (.aload_n 0, 1) := by decide +kernel
theorem dX10_summedUp_330 : decode cX10_summedUp 330 = .ok (.getfield 39, 3) := by decide +kernel
theorem dX10_summedUp_333 : decode cX10_summedUp 333 = .ok (.iload 6, 2) := by decide +kernel
theorem dX10_summedUp_335 : decode cX10_summedUp 335 = .ok (.iconst 1, 1) := by decide +kernel
theorem dX10_summedUp_336 : decode cX10_summedUp 336 = .ok (.isub, 1) := by decide +kernel
theorem dX10_summedUp_337 : decode cX10_summedUp 337 = .ok (.baload, 1) := by decide +kernel
theorem dX10_summedUp_338 : decode cX10_summedUp 338 = .ok (.aload_n 0, 1) := by decide +kernel
theorem dX10_summedUp_339 : decode cX10_summedUp 339 = .ok (.getfield 39, 3) := by decide +kernel
theorem dX10_summedUp_342 : decode cX10_summedUp 342 = .ok (.iload 6, 2) := by decide +kernel
theorem dX10_summedUp_344 : decode cX10_summedUp 344 = .ok (.baload, 1) := by decide +kernel
theorem dX10_summedUp_345 : decode cX10_summedUp 345 = .ok (.invokestatic 262, 3) := by decide +kernel
theorem dX10_summedUp_348 : decode cX10_summedUp 348 = .ok (.bastore, 1) := by decide +kernel
theorem dX10_summedUp_349 : decode cX10_summedUp 349 = .ok (.iinc 7 1, 3) := by decide +kernel
theorem dX10_summedUp_352 : decode cX10_summedUp 352 = .ok (.goto (-314), 3) := by decide +kernel
theorem dX10_summedUp_355 : decode cX10_summedUp 355 = .ok (.aload_n 0, 1) := by decide +kernel
theorem dX10_summedUp_356 : decode cX10_summedUp 356 = .ok (.getfield 35, 3) := by decide +kernel
theorem dX10_summedUp_359 : decode cX10_summedUp 359 = .ok (.iconst 0, 1) := by decide +kernel
theorem dX10_summedUp_360 : decode cX10_summedUp 360 = .ok (.laload, 1) := by decide +kernel
theorem dX10_summedUp_361 : decode cX10_summedUp 361 = .ok (.lreturn, 1) := by decide +kernel
theorem dX10_says_0 : decode cX10_says 0 = .ok (.iconst 0, 1) := by decide +kernel
theorem dX10_says_1 : decode cX10_says 1 = .ok (.istore 5, 2) := by decide +kernel
theorem dX10_says_3 : decode cX10_says 3 = .ok (.iload_n 1, 1) := by decide +kernel
theorem dX10_says_4 : decode cX10_says 4 = .ok (.ifCond .lt 59, 3) := by decide +kernel
theorem dX10_says_7 : decode cX10_says 7 = .ok (.iload 5, 2) := by decide +kernel
theorem dX10_says_9 : decode cX10_says 9 = .ok (.aload_n 0, 1) := by decide +kernel
theorem dX10_says_10 : decode cX10_says 10 = .ok (.getfield 16, 3) := by decide +kernel
theorem dX10_says_13 : decode cX10_says 13 = .ok (.sipush 681, 3) := by decide +kernel
theorem dX10_says_16 : decode cX10_says 16 = .ok (.iload_n 1, 1) := by decide +kernel
theorem dX10_says_17 : decode cX10_says 17 = .ok (.imul, 1) := by decide +kernel
theorem dX10_says_18 : decode cX10_says 18 = .ok (.iaload, 1) := by decide +kernel
theorem dX10_says_19 : decode cX10_says 19 = .ok (.if_icmp .ge 44, 3) := by decide +kernel
theorem dX10_says_22 : decode cX10_says 22 = .ok (.aload_n 0, 1) := by decide +kernel
theorem dX10_says_23 : decode cX10_says 23 = .ok (.getfield 16, 3) := by decide +kernel
theorem dX10_says_26 : decode cX10_says 26 = .ok (.sipush 681, 3) := by decide +kernel
theorem dX10_says_29 : decode cX10_says 29 = .ok (.iload_n 1, 1) := by decide +kernel
theorem dX10_says_30 : decode cX10_says 30 = .ok (.imul, 1) := by decide +kernel
theorem dX10_says_31 : decode cX10_says 31 = .ok (.iconst 1, 1) := by decide +kernel
theorem dX10_says_32 : decode cX10_says 32 = .ok (.iadd, 1) := by decide +kernel
theorem dX10_says_33 : decode cX10_says 33 = .ok (.iconst 3, 1) := by decide +kernel
theorem dX10_says_34 : decode cX10_says 34 = .ok (.iload 5, 2) := by decide +kernel
theorem dX10_says_36 : decode cX10_says 36 = .ok (.imul, 1) := by decide +kernel
theorem dX10_says_37 : decode cX10_says 37 = .ok (.iadd, 1) := by decide +kernel
theorem dX10_says_38 : decode cX10_says 38 = .ok (.iaload, 1) := by decide +kernel
theorem dX10_says_39 : decode cX10_says 39 = .ok (.iload_n 2, 1) := by decide +kernel
theorem dX10_says_40 : decode cX10_says 40 = .ok (.if_icmp .ne 17, 3) := by decide +kernel
theorem dX10_says_43 : decode cX10_says 43 = .ok (.aload_n 0, 1) := by decide +kernel
theorem dX10_says_44 : decode cX10_says 44 = .ok (.iload_n 1, 1) := by decide +kernel
theorem dX10_says_45 : decode cX10_says 45 = .ok (.iload 5, 2) := by decide +kernel
theorem dX10_says_47 : decode cX10_says 47 = .ok (.invokevirtual 266, 3) := by decide +kernel
theorem dX10_says_50 : decode cX10_says 50 = .ok (.iconst 0, 1) := by decide +kernel
theorem dX10_says_51 : decode cX10_says 51 = .ok (.iload 4, 2) := by decide +kernel
theorem dX10_says_53 : decode cX10_says 53 = .ok (.invokestatic 269, 3) := by decide +kernel
theorem dX10_says_56 : decode cX10_says 56 = .ok (.ireturn, 1) := by decide +kernel
theorem dX10_says_57 : decode cX10_says 57 = .ok (.iinc 5 1, 3) := by decide +kernel
theorem dX10_says_60 : decode cX10_says 60 = .ok (.goto (-57), 3) := by decide +kernel
theorem dX10_says_63 : decode cX10_says 63 = .ok (.iload_n 3, 1) := by decide +kernel
theorem dX10_says_64 : decode cX10_says 64 = .ok (.i2l, 1) := by decide +kernel
theorem dX10_says_65 : decode cX10_says 65 = .ok (.iconst 0, 1) := by decide +kernel
theorem dX10_says_66 : decode cX10_says 66 = .ok (.iload 4, 2) := by decide +kernel
theorem dX10_says_68 : decode cX10_says 68 = .ok (.invokestatic 269, 3) := by decide +kernel
theorem dX10_says_71 : decode cX10_says 71 = .ok (.ireturn, 1) := by decide +kernel
theorem dX10_name_0 : decode cX10_name 0 = .ok (.aload_n 0, 1) := by decide +kernel
theorem dX10_name_1 : decode cX10_name 1 = .ok (.getfield 32, 3) := by decide +kernel
theorem dX10_name_4 : decode cX10_name 4 = .ok (.iconst 0, 1) := by decide +kernel
theorem dX10_name_5 : decode cX10_name 5 = .ok (.aload_n 0, 1) := by decide +kernel
theorem dX10_name_6 : decode cX10_name 6 = .ok (.getfield 7, 3) := by decide +kernel
theorem dX10_name_9 : decode cX10_name 9 = .ok (.bipush 6, 2) := by decide +kernel
theorem dX10_name_11 : decode cX10_name 11 = .ok (.iaload, 1) := by decide +kernel
theorem dX10_name_12 : decode cX10_name 12 = .ok (.iastore, 1) := by decide +kernel
theorem dX10_name_13 : decode cX10_name 13 = .ok (.aload_n 0, 1) := by decide +kernel
theorem dX10_name_14 : decode cX10_name 14 = .ok (.getfield 32, 3) := by decide +kernel
theorem dX10_name_17 : decode cX10_name 17 = .ok (.iconst 1, 1) := by decide +kernel
theorem dX10_name_18 : decode cX10_name 18 = .ok (.iload_n 1, 1) := by decide +kernel
theorem dX10_name_19 : decode cX10_name 19 = .ok (.iastore, 1) := by decide +kernel
theorem dX10_name_20 : decode cX10_name 20 = .ok (.aload_n 0, 1) := by decide +kernel
theorem dX10_name_21 : decode cX10_name 21 = .ok (.getfield 32, 3) := by decide +kernel
theorem dX10_name_24 : decode cX10_name 24 = .ok (.iconst 2, 1) := by decide +kernel
theorem dX10_name_25 : decode cX10_name 25 = .ok (.aload_n 0, 1) := by decide +kernel
theorem dX10_name_26 : decode cX10_name 26 = .ok (.getfield 7, 3) := by decide +kernel
theorem dX10_name_29 : decode cX10_name 29 = .ok (.bipush 11, 2) := by decide +kernel
theorem dX10_name_31 : decode cX10_name 31 = .ok (.iload_n 1, 1) := by decide +kernel
theorem dX10_name_32 : decode cX10_name 32 = .ok (.iadd, 1) := by decide +kernel
theorem dX10_name_33 : decode cX10_name 33 = .ok (.iaload, 1) := by decide +kernel
theorem dX10_name_34 : decode cX10_name 34 = .ok (.iastore, 1) := by decide +kernel
theorem dX10_name_35 : decode cX10_name 35 = .ok (.aload_n 0, 1) := by decide +kernel
theorem dX10_name_36 : decode cX10_name 36 = .ok (.getfield 32, 3) := by decide +kernel
theorem dX10_name_39 : decode cX10_name 39 = .ok (.iconst 3, 1) := by decide +kernel
theorem dX10_name_40 : decode cX10_name 40 = .ok (.aload_n 0, 1) := by decide +kernel
theorem dX10_name_41 : decode cX10_name 41 = .ok (.getfield 7, 3) := by decide +kernel
theorem dX10_name_44 : decode cX10_name 44 = .ok (.bipush 23, 2) := by decide +kernel
theorem dX10_name_46 : decode cX10_name 46 = .ok (.iload_n 1, 1) := by decide +kernel
theorem dX10_name_47 : decode cX10_name 47 = .ok (.iadd, 1) := by decide +kernel
theorem dX10_name_48 : decode cX10_name 48 = .ok (.iaload, 1) := by decide +kernel
theorem dX10_name_49 : decode cX10_name 49 = .ok (.iastore, 1) := by decide +kernel
theorem dX10_name_50 : decode cX10_name 50 = .ok (.return_, 1) := by decide +kernel
theorem dX10_besideOf_0 : decode cX10_besideOf 0 = .ok (.iload_n 1, 1) := by decide +kernel
theorem dX10_besideOf_1 : decode cX10_besideOf 1 = .ok (.ifCond .eq 21, 3) := by decide +kernel
theorem dX10_besideOf_4 : decode cX10_besideOf 4 = .ok (.iload_n 0, 1) := by decide +kernel
theorem dX10_besideOf_5 : decode cX10_besideOf 5 = .ok (.iconst 1, 1) := by decide +kernel
theorem dX10_besideOf_6 : decode cX10_besideOf 6 = .ok (.iadd, 1) := by decide +kernel
theorem dX10_besideOf_7 : decode cX10_besideOf 7 = .ok (.bipush 12, 2) := by decide +kernel
theorem dX10_besideOf_9 : decode cX10_besideOf 9 = .ok (.if_icmp .ge 9, 3) := by decide +kernel
theorem dX10_besideOf_12 : decode cX10_besideOf 12 = .ok (.iload_n 0, 1) := by decide +kernel
theorem dX10_besideOf_13 : decode cX10_besideOf 13 = .ok (.iconst 1, 1) := by decide +kernel
theorem dX10_besideOf_14 : decode cX10_besideOf 14 = .ok (.iadd, 1) := by decide +kernel
theorem dX10_besideOf_15 : decode cX10_besideOf 15 = .ok (.goto 10, 3) := by decide +kernel
theorem dX10_besideOf_18 : decode cX10_besideOf 18 = .ok (.iconst (-1), 1) := by decide +kernel
theorem dX10_besideOf_19 : decode cX10_besideOf 19 = .ok (.goto 6, 3) := by decide +kernel
theorem dX10_besideOf_22 : decode cX10_besideOf 22 = .ok (.iload_n 0, 1) := by decide +kernel
theorem dX10_besideOf_23 : decode cX10_besideOf 23 = .ok (.iconst 1, 1) := by decide +kernel
theorem dX10_besideOf_24 : decode cX10_besideOf 24 = .ok (.isub, 1) := by decide +kernel
theorem dX10_besideOf_25 : decode cX10_besideOf 25 = .ok (.ireturn, 1) := by decide +kernel
theorem dX10_movesOf_0 : decode cX10_movesOf 0 = .ok (.iload_n 3, 1) := by decide +kernel
theorem dX10_movesOf_1 : decode cX10_movesOf 1 = .ok (.iload 4, 2) := by decide +kernel
theorem dX10_movesOf_3 : decode cX10_movesOf 3 = .ok (.invokestatic 273, 3) := by decide +kernel
theorem dX10_movesOf_6 : decode cX10_movesOf 6 = .ok (.istore 5, 2) := by decide +kernel
theorem dX10_movesOf_8 : decode cX10_movesOf 8 = .ok (.aload_n 0, 1) := by decide +kernel
theorem dX10_movesOf_9 : decode cX10_movesOf 9 = .ok (.iload_n 3, 1) := by decide +kernel
theorem dX10_movesOf_10 : decode cX10_movesOf 10 = .ok (.invokevirtual 277, 3) := by decide +kernel
theorem dX10_movesOf_13 : decode cX10_movesOf 13 = .ok (.aload_n 0, 1) := by decide +kernel
theorem dX10_movesOf_14 : decode cX10_movesOf 14 = .ok (.getfield 32, 3) := by decide +kernel
theorem dX10_movesOf_17 : decode cX10_movesOf 17 = .ok (.iconst 4, 1) := by decide +kernel
theorem dX10_movesOf_18 : decode cX10_movesOf 18 = .ok (.aload_n 0, 1) := by decide +kernel
theorem dX10_movesOf_19 : decode cX10_movesOf 19 = .ok (.getfield 7, 3) := by decide +kernel
theorem dX10_movesOf_22 : decode cX10_movesOf 22 = .ok (.bipush 47, 2) := by decide +kernel
theorem dX10_movesOf_24 : decode cX10_movesOf 24 = .ok (.iload_n 2, 1) := by decide +kernel
theorem dX10_movesOf_25 : decode cX10_movesOf 25 = .ok (.iadd, 1) := by decide +kernel
theorem dX10_movesOf_26 : decode cX10_movesOf 26 = .ok (.iaload, 1) := by decide +kernel
theorem dX10_movesOf_27 : decode cX10_movesOf 27 = .ok (.iastore, 1) := by decide +kernel
theorem dX10_movesOf_28 : decode cX10_movesOf 28 = .ok (.aload_n 0, 1) := by decide +kernel
theorem dX10_movesOf_29 : decode cX10_movesOf 29 = .ok (.getfield 32, 3) := by decide +kernel
theorem dX10_movesOf_32 : decode cX10_movesOf 32 = .ok (.iconst 5, 1) := by decide +kernel
theorem dX10_movesOf_33 : decode cX10_movesOf 33 = .ok (.iload_n 2, 1) := by decide +kernel
theorem dX10_movesOf_34 : decode cX10_movesOf 34 = .ok (.iastore, 1) := by decide +kernel
theorem dX10_movesOf_35 : decode cX10_movesOf 35 = .ok (.aload_n 0, 1) := by decide +kernel
theorem dX10_movesOf_36 : decode cX10_movesOf 36 = .ok (.getfield 32, 3) := by decide +kernel
theorem dX10_movesOf_39 : decode cX10_movesOf 39 = .ok (.bipush 6, 2) := by decide +kernel
theorem dX10_movesOf_41 : decode cX10_movesOf 41 = .ok (.iload 5, 2) := by decide +kernel
theorem dX10_movesOf_43 : decode cX10_movesOf 43 = .ok (.iconst (-1), 1) := by decide +kernel
theorem dX10_movesOf_44 : decode cX10_movesOf 44 = .ok (.if_icmp .ne 13, 3) := by decide +kernel
theorem dX10_movesOf_47 : decode cX10_movesOf 47 = .ok (.aload_n 0, 1) := by decide +kernel
theorem dX10_movesOf_48 : decode cX10_movesOf 48 = .ok (.getfield 7, 3) := by decide +kernel
theorem dX10_movesOf_51 : decode cX10_movesOf 51 = .ok (.bipush 9, 2) := by decide +kernel
theorem dX10_movesOf_53 : decode cX10_movesOf 53 = .ok (.iaload, 1) := by decide +kernel
theorem dX10_movesOf_54 : decode cX10_movesOf 54 = .ok (.goto 13, 3) := by decide +kernel
theorem dX10_movesOf_57 : decode cX10_movesOf 57 = .ok (.aload_n 0, 1) := by decide +kernel
theorem dX10_movesOf_58 : decode cX10_movesOf 58 = .ok (.getfield 7, 3) := by decide +kernel
theorem dX10_movesOf_61 : decode cX10_movesOf 61 = .ok (.bipush 11, 2) := by decide +kernel
theorem dX10_movesOf_63 : decode cX10_movesOf 63 = .ok (.iload 5, 2) := by decide +kernel
theorem dX10_movesOf_65 : decode cX10_movesOf 65 = .ok (.iadd, 1) := by decide +kernel
theorem dX10_movesOf_66 : decode cX10_movesOf 66 = .ok (.iaload, 1) := by decide +kernel
theorem dX10_movesOf_67 : decode cX10_movesOf 67 = .ok (.iastore, 1) := by decide +kernel
theorem dX10_movesOf_68 : decode cX10_movesOf 68 = .ok (.aload_n 0, 1) := by decide +kernel
theorem dX10_movesOf_69 : decode cX10_movesOf 69 = .ok (.getfield 32, 3) := by decide +kernel
theorem dX10_movesOf_72 : decode cX10_movesOf 72 = .ok (.bipush 7, 2) := by decide +kernel
theorem dX10_movesOf_74 : decode cX10_movesOf 74 = .ok (.iload 4, 2) := by decide +kernel
theorem dX10_movesOf_76 : decode cX10_movesOf 76 = .ok (.ifCond .eq 7, 3) := by decide +kernel
theorem dX10_movesOf_79 : decode cX10_movesOf 79 = .ok (.iconst 1, 1) := by decide +kernel
theorem dX10_movesOf_80 : decode cX10_movesOf 80 = .ok (.goto 4, 3) := by decide +kernel
theorem dX10_movesOf_83 : decode cX10_movesOf 83 = .ok (.iconst 0, 1) := by decide +kernel
theorem dX10_movesOf_84 : decode cX10_movesOf 84 = .ok (.iastore, 1) := by decide +kernel
theorem dX10_movesOf_85 : decode cX10_movesOf 85 = .ok (.aload_n 0, 1) := by decide +kernel
theorem dX10_movesOf_86 : decode cX10_movesOf 86 = .ok (.iload_n 1, 1) := by decide +kernel
theorem dX10_movesOf_87 : decode cX10_movesOf 87 = .ok (.iconst 0, 1) := by decide +kernel
theorem dX10_movesOf_88 : decode cX10_movesOf 88 = .ok (.aload_n 0, 1) := by decide +kernel
theorem dX10_movesOf_89 : decode cX10_movesOf 89 = .ok (.getfield 32, 3) := by decide +kernel
theorem dX10_movesOf_92 : decode cX10_movesOf 92 = .ok (.iconst 2, 1) := by decide +kernel
theorem dX10_movesOf_93 : decode cX10_movesOf 93 = .ok (.iaload, 1) := by decide +kernel
theorem dX10_movesOf_94 : decode cX10_movesOf 94 = .ok (.iconst 2, 1) := by decide +kernel
theorem dX10_movesOf_95 : decode cX10_movesOf 95 = .ok (.idiv, 1) := by decide +kernel
theorem dX10_movesOf_96 : decode cX10_movesOf 96 = .ok (.aload_n 0, 1) := by decide +kernel
theorem dX10_movesOf_97 : decode cX10_movesOf 97 = .ok (.getfield 32, 3) := by decide +kernel
theorem dX10_movesOf_100 : decode cX10_movesOf 100 = .ok (.iconst 2, 1) := by decide +kernel
theorem dX10_movesOf_101 : decode cX10_movesOf 101 = .ok (.iaload, 1) := by decide +kernel
theorem dX10_movesOf_102 : decode cX10_movesOf 102 = .ok (.invokevirtual 280, 3) := by decide +kernel
theorem dX10_movesOf_105 : decode cX10_movesOf 105 = .ok (.ireturn, 1) := by decide +kernel
theorem dX10_tearsOf_0 : decode cX10_tearsOf 0 = .ok (.aload_n 0, 1) := by decide +kernel
theorem dX10_tearsOf_1 : decode cX10_tearsOf 1 = .ok (.iload_n 1, 1) := by decide +kernel
theorem dX10_tearsOf_2 : decode cX10_tearsOf 2 = .ok (.invokevirtual 277, 3) := by decide +kernel
theorem dX10_tearsOf_5 : decode cX10_tearsOf 5 = .ok (.aload_n 0, 1) := by decide +kernel
theorem dX10_tearsOf_6 : decode cX10_tearsOf 6 = .ok (.aload_n 0, 1) := by decide +kernel
theorem dX10_tearsOf_7 : decode cX10_tearsOf 7 = .ok (.getfield 7, 3) := by decide +kernel
theorem dX10_tearsOf_10 : decode cX10_tearsOf 10 = .ok (.iconst 3, 1) := by decide +kernel
theorem dX10_tearsOf_11 : decode cX10_tearsOf 11 = .ok (.iaload, 1) := by decide +kernel
theorem dX10_tearsOf_12 : decode cX10_tearsOf 12 = .ok (.iconst 1, 1) := by decide +kernel
theorem dX10_tearsOf_13 : decode cX10_tearsOf 13 = .ok (.iconst 3, 1) := by decide +kernel
theorem dX10_tearsOf_14 : decode cX10_tearsOf 14 = .ok (.bipush 99, 2) := by decide +kernel
theorem dX10_tearsOf_16 : decode cX10_tearsOf 16 = .ok (.invokevirtual 280, 3) := by decide +kernel
theorem dX10_tearsOf_19 : decode cX10_tearsOf 19 = .ok (.ireturn, 1) := by decide +kernel
theorem dX10_write_0 : decode cX10_write 0 = .ok (.aload_n 0, 1) := by decide +kernel
theorem dX10_write_1 : decode cX10_write 1 = .ok (.getfield 43, 3) := by decide +kernel
theorem dX10_write_4 : decode cX10_write 4 = .ok (.ifCond .ne 4, 3) := by decide +kernel
theorem dX10_write_7 : decode cX10_write 7 = .ok (.return_, 1) := by decide +kernel
theorem dX10_write_8 : decode cX10_write 8 = .ok (.aload_n 0, 1) := by decide +kernel
theorem dX10_write_9 : decode cX10_write 9 = .ok (.getfield 7, 3) := by decide +kernel
theorem dX10_write_12 : decode cX10_write 12 = .ok (.bipush 10, 2) := by decide +kernel
theorem dX10_write_14 : decode cX10_write 14 = .ok (.iaload, 1) := by decide +kernel
theorem dX10_write_15 : decode cX10_write 15 = .ok (.bipush 30, 2) := by decide +kernel
theorem dX10_write_17 : decode cX10_write 17 = .ok (.if_icmp .ne 54, 3) := by decide +kernel
theorem dX10_write_20 : decode cX10_write 20 = .ok (.iconst 2, 1) := by decide +kernel
theorem dX10_write_21 : decode cX10_write 21 = .ok (.istore 4, 2) := by decide +kernel
theorem dX10_write_23 : decode cX10_write 23 = .ok (.iload 4, 2) := by decide +kernel
theorem dX10_write_25 : decode cX10_write 25 = .ok (.bipush 60, 2) := by decide +kernel
theorem dX10_write_27 : decode cX10_write 27 = .ok (.if_icmp .ge 33, 3) := by decide +kernel
theorem dX10_write_30 : decode cX10_write 30 = .ok (.aload_n 0, 1) := by decide +kernel
theorem dX10_write_31 : decode cX10_write 31 = .ok (.getfield 7, 3) := by decide +kernel
theorem dX10_write_34 : decode cX10_write 34 = .ok (.sipush 2955, 3) := by decide +kernel
theorem dX10_write_37 : decode cX10_write 37 = .ok (.iload 4, 2) := by decide +kernel
theorem dX10_write_39 : decode cX10_write 39 = .ok (.iadd, 1) := by decide +kernel
theorem dX10_write_40 : decode cX10_write 40 = .ok (.iconst 2, 1) := by decide +kernel
theorem dX10_write_41 : decode cX10_write 41 = .ok (.isub, 1) := by decide +kernel
theorem dX10_write_42 : decode cX10_write 42 = .ok (.aload_n 0, 1) := by decide +kernel
theorem dX10_write_43 : decode cX10_write 43 = .ok (.getfield 7, 3) := by decide +kernel
theorem dX10_write_46 : decode cX10_write 46 = .ok (.sipush 2955, 3) := by decide +kernel
theorem dX10_write_49 : decode cX10_write 49 = .ok (.iload 4, 2) := by decide +kernel
theorem dX10_write_51 : decode cX10_write 51 = .ok (.iadd, 1) := by decide +kernel
theorem dX10_write_52 : decode cX10_write 52 = .ok (.iaload, 1) := by decide +kernel
theorem dX10_write_53 : decode cX10_write 53 = .ok (.iastore, 1) := by decide +kernel
theorem dX10_write_54 : decode cX10_write 54 = .ok (.iinc 4 1, 3) := by decide +kernel
theorem dX10_write_57 : decode cX10_write 57 = .ok (.goto (-34), 3) := by decide +kernel
theorem dX10_write_60 : decode cX10_write 60 = .ok (.aload_n 0, 1) := by decide +kernel
theorem dX10_write_61 : decode cX10_write 61 = .ok (.getfield 7, 3) := by decide +kernel
theorem dX10_write_64 : decode cX10_write 64 = .ok (.bipush 10, 2) := by decide +kernel
theorem dX10_write_66 : decode cX10_write 66 = .ok (.dup2, 1) := by decide +kernel
theorem dX10_write_67 : decode cX10_write 67 = .ok (.iaload, 1) := by decide +kernel
theorem dX10_write_68 : decode cX10_write 68 = .ok (.iconst 1, 1) := by decide +kernel
theorem dX10_write_69 : decode cX10_write 69 = .ok (.isub, 1) := by decide +kernel
theorem dX10_write_70 : decode cX10_write 70 = .ok (.iastore, 1) := by decide +kernel
theorem dX10_write_71 : decode cX10_write 71 = .ok (.aload_n 0, 1) := by decide +kernel
theorem dX10_write_72 : decode cX10_write 72 = .ok (.getfield 7, 3) := by decide +kernel
theorem dX10_write_75 : decode cX10_write 75 = .ok (.sipush 2955, 3) := by decide +kernel
theorem dX10_write_78 : decode cX10_write 78 = .ok (.iconst 2, 1) := by decide +kernel
theorem dX10_write_79 : decode cX10_write 79 = .ok (.aload_n 0, 1) := by decide +kernel
theorem dX10_write_80 : decode cX10_write 80 = .ok (.getfield 7, 3) := by decide +kernel
theorem dX10_write_83 : decode cX10_write 83 = .ok (.bipush 10, 2) := by decide +kernel
theorem dX10_write_85 : decode cX10_write 85 = .ok (.iaload, 1) := by decide +kernel
theorem dX10_write_86 : decode cX10_write 86 = .ok (.imul, 1) := by decide +kernel
theorem dX10_write_87 : decode cX10_write 87 = .ok (.iadd, 1) := by decide +kernel
theorem dX10_write_88 : decode cX10_write 88 = .ok (.aload_n 0, 1) := by decide +kernel
theorem dX10_write_89 : decode cX10_write 89 = .ok (.getfield 7, 3) := by decide +kernel
theorem dX10_write_92 : decode cX10_write 92 = .ok (.bipush 6, 2) := by decide +kernel
theorem dX10_write_94 : decode cX10_write 94 = .ok (.iaload, 1) := by decide +kernel
theorem dX10_write_95 : decode cX10_write 95 = .ok (.iconst 4, 1) := by decide +kernel
theorem dX10_write_96 : decode cX10_write 96 = .ok (.imul, 1) := by decide +kernel
theorem dX10_write_97 : decode cX10_write 97 = .ok (.iload_n 1, 1) := by decide +kernel
theorem dX10_write_98 : decode cX10_write 98 = .ok (.iadd, 1) := by decide +kernel
theorem dX10_write_99 : decode cX10_write 99 = .ok (.bipush 24, 2) := by decide +kernel
theorem dX10_write_101 : decode cX10_write 101 = .ok (.imul, 1) := by decide +kernel
theorem dX10_write_102 : decode cX10_write 102 = .ok (.iload_n 2, 1) := by decide +kernel
theorem dX10_write_103 : decode cX10_write 103 = .ok (.iadd, 1) := by decide +kernel
theorem dX10_write_104 : decode cX10_write 104 = .ok (.iastore, 1) := by decide +kernel
theorem dX10_write_105 : decode cX10_write 105 = .ok (.aload_n 0, 1) := by decide +kernel
theorem dX10_write_106 : decode cX10_write 106 = .ok (.getfield 7, 3) := by decide +kernel
theorem dX10_write_109 : decode cX10_write 109 = .ok (.sipush 2955, 3) := by decide +kernel
theorem dX10_write_112 : decode cX10_write 112 = .ok (.iconst 2, 1) := by decide +kernel
theorem dX10_write_113 : decode cX10_write 113 = .ok (.aload_n 0, 1) := by decide +kernel
theorem dX10_write_114 : decode cX10_write 114 = .ok (.getfield 7, 3) := by decide +kernel
theorem dX10_write_117 : decode cX10_write 117 = .ok (.bipush 10, 2) := by decide +kernel
theorem dX10_write_119 : decode cX10_write 119 = .ok (.iaload, 1) := by decide +kernel
theorem dX10_write_120 : decode cX10_write 120 = .ok (.imul, 1) := by decide +kernel
theorem dX10_write_121 : decode cX10_write 121 = .ok (.iadd, 1) := by decide +kernel
theorem dX10_write_122 : decode cX10_write 122 = .ok (.iconst 1, 1) := by decide +kernel
theorem dX10_write_123 : decode cX10_write 123 = .ok (.iadd, 1) := by decide +kernel
theorem dX10_write_124 : decode cX10_write 124 = .ok (.iload_n 3, 1) := by decide +kernel
theorem dX10_write_125 : decode cX10_write 125 = .ok (.iastore, 1) := by decide +kernel
theorem dX10_write_126 : decode cX10_write 126 = .ok (.aload_n 0, 1) := by decide +kernel
theorem dX10_write_127 : decode cX10_write 127 = .ok (.getfield 7, 3) := by decide +kernel
theorem dX10_write_130 : decode cX10_write 130 = .ok (.bipush 10, 2) := by decide +kernel
theorem dX10_write_132 : decode cX10_write 132 = .ok (.dup2, 1) := by decide +kernel
theorem dX10_write_133 : decode cX10_write 133 = .ok (.iaload, 1) := by decide +kernel
theorem dX10_write_134 : decode cX10_write 134 = .ok (.iconst 1, 1) := by decide +kernel
theorem dX10_write_135 : decode cX10_write 135 = .ok (.iadd, 1) := by decide +kernel
theorem dX10_write_136 : decode cX10_write 136 = .ok (.iastore, 1) := by decide +kernel
theorem dX10_write_137 : decode cX10_write 137 = .ok (.return_, 1) := by decide +kernel
theorem dX10_drawnBy_0 : decode cX10_drawnBy 0 = .ok (.aload_n 0, 1) := by decide +kernel
theorem dX10_drawnBy_1 : decode cX10_drawnBy 1 = .ok (.getfield 7, 3) := by decide +kernel
theorem dX10_drawnBy_4 : decode cX10_drawnBy 4 = .ok (.bipush 7, 2) := by decide +kernel
theorem dX10_drawnBy_6 : decode cX10_drawnBy 6 = .ok (.iaload, 1) := by decide +kernel
theorem dX10_drawnBy_7 : decode cX10_drawnBy 7 = .ok (.iload_n 1, 1) := by decide +kernel
theorem dX10_drawnBy_8 : decode cX10_drawnBy 8 = .ok (.irem, 1) := by decide +kernel
theorem dX10_drawnBy_9 : decode cX10_drawnBy 9 = .ok (.istore_n 2, 1) := by decide +kernel
theorem dX10_drawnBy_10 : decode cX10_drawnBy 10 = .ok (.aload_n 0, 1) := by decide +kernel
theorem dX10_drawnBy_11 : decode cX10_drawnBy 11 = .ok (.getfield 7, 3) := by decide +kernel
theorem dX10_drawnBy_14 : decode cX10_drawnBy 14 = .ok (.bipush 7, 2) := by decide +kernel
theorem dX10_drawnBy_16 : decode cX10_drawnBy 16 = .ok (.aload_n 0, 1) := by decide +kernel
theorem dX10_drawnBy_17 : decode cX10_drawnBy 17 = .ok (.getfield 7, 3) := by decide +kernel
theorem dX10_drawnBy_20 : decode cX10_drawnBy 20 = .ok (.bipush 7, 2) := by decide +kernel
theorem dX10_drawnBy_22 : decode cX10_drawnBy 22 = .ok (.iaload, 1) := by decide +kernel
theorem dX10_drawnBy_23 : decode cX10_drawnBy 23 = .ok (.i2l, 1) := by decide +kernel
theorem dX10_drawnBy_24 : decode cX10_drawnBy 24 = .ok (.ldc2_w 284, 3) := by decide +kernel
theorem dX10_drawnBy_27 : decode cX10_drawnBy 27 = .ok (.lmul, 1) := by decide +kernel
theorem dX10_drawnBy_28 : decode cX10_drawnBy 28 = .ok (.ldc2_w 286, 3) := by decide +kernel
theorem dX10_drawnBy_31 : decode cX10_drawnBy 31 = .ok (.ladd, 1) := by decide +kernel
theorem dX10_drawnBy_32 : decode cX10_drawnBy 32 = .ok (.ldc2_w 288, 3) := by decide +kernel
theorem dX10_drawnBy_35 : decode cX10_drawnBy 35 = .ok (.lrem, 1) := by decide +kernel
theorem dX10_drawnBy_36 : decode cX10_drawnBy 36 = .ok (.l2i, 1) := by decide +kernel
theorem dX10_drawnBy_37 : decode cX10_drawnBy 37 = .ok (.iastore, 1) := by decide +kernel
theorem dX10_drawnBy_38 : decode cX10_drawnBy 38 = .ok (.iload_n 2, 1) := by decide +kernel
theorem dX10_drawnBy_39 : decode cX10_drawnBy 39 = .ok (.ireturn, 1) := by decide +kernel
theorem dX10_strokeNow_0 : decode cX10_strokeNow 0 = .ok (.aload_n 0, 1) := by decide +kernel
theorem dX10_strokeNow_1 : decode cX10_strokeNow 1 = .ok (.aload_n 0, 1) := by decide +kernel
theorem dX10_strokeNow_2 : decode cX10_strokeNow 2 = .ok (.getfield 7, 3) := by decide +kernel
theorem dX10_strokeNow_5 : decode cX10_strokeNow 5 = .ok (.iconst 3, 1) := by decide +kernel
theorem dX10_strokeNow_6 : decode cX10_strokeNow 6 = .ok (.iaload, 1) := by decide +kernel
theorem dX10_strokeNow_7 : decode cX10_strokeNow 7 = .ok (.iload_n 1, 1) := by decide +kernel
theorem dX10_strokeNow_8 : decode cX10_strokeNow 8 = .ok (.iload_n 2, 1) := by decide +kernel
theorem dX10_strokeNow_9 : decode cX10_strokeNow 9 = .ok (.iload_n 3, 1) := by decide +kernel
theorem dX10_strokeNow_10 : decode cX10_strokeNow 10 = .ok (.invokevirtual 290, 3) := by decide +kernel
theorem dX10_strokeNow_13 : decode cX10_strokeNow 13 = .ok (.istore 4, 2) := by decide +kernel
theorem dX10_strokeNow_15 : decode cX10_strokeNow 15 = .ok (.iload_n 2, 1) := by decide +kernel
theorem dX10_strokeNow_16 : decode cX10_strokeNow 16 = .ok (.iload_n 3, 1) := by decide +kernel
theorem dX10_strokeNow_17 : decode cX10_strokeNow 17 = .ok (.invokestatic 273, 3) := by decide +kernel
theorem dX10_strokeNow_20 : decode cX10_strokeNow 20 = .ok (.istore 5, 2) := by decide +kernel
theorem dX10_strokeNow_22 : decode cX10_strokeNow 22 = .ok (.iconst 2, 1) := by decide +kernel
theorem dX10_strokeNow_23 : decode cX10_strokeNow 23 = .ok (.iload 4, 2) := by decide +kernel
theorem dX10_strokeNow_25 : decode cX10_strokeNow 25 = .ok (.imul, 1) := by decide +kernel
theorem dX10_strokeNow_26 : decode cX10_strokeNow 26 = .ok (.aload_n 0, 1) := by decide +kernel
theorem dX10_strokeNow_27 : decode cX10_strokeNow 27 = .ok (.getfield 7, 3) := by decide +kernel
theorem dX10_strokeNow_30 : decode cX10_strokeNow 30 = .ok (.bipush 11, 2) := by decide +kernel
theorem dX10_strokeNow_32 : decode cX10_strokeNow 32 = .ok (.iload_n 2, 1) := by decide +kernel
theorem dX10_strokeNow_33 : decode cX10_strokeNow 33 = .ok (.iadd, 1) := by decide +kernel
theorem dX10_strokeNow_34 : decode cX10_strokeNow 34 = .ok (.iaload, 1) := by decide +kernel
theorem dX10_strokeNow_35 : decode cX10_strokeNow 35 = .ok (.if_icmp .le 7, 3) := by decide +kernel
theorem dX10_strokeNow_38 : decode cX10_strokeNow 38 = .ok (.iconst 1, 1) := by decide +kernel
theorem dX10_strokeNow_39 : decode cX10_strokeNow 39 = .ok (.goto 4, 3) := by decide +kernel
theorem dX10_strokeNow_42 : decode cX10_strokeNow 42 = .ok (.iconst 0, 1) := by decide +kernel
theorem dX10_strokeNow_43 : decode cX10_strokeNow 43 = .ok (.istore 6, 2) := by decide +kernel
theorem dX10_strokeNow_45 : decode cX10_strokeNow 45 = .ok (.iconst 0, 1) := by decide +kernel
theorem dX10_strokeNow_46 : decode cX10_strokeNow 46 = .ok (.istore 7, 2) := by decide +kernel
theorem dX10_strokeNow_48 : decode cX10_strokeNow 48 = .ok (.iload 7, 2) := by decide +kernel
theorem dX10_strokeNow_50 : decode cX10_strokeNow 50 = .ok (.aload_n 0, 1) := by decide +kernel
theorem dX10_strokeNow_51 : decode cX10_strokeNow 51 = .ok (.getfield 7, 3) := by decide +kernel
theorem dX10_strokeNow_54 : decode cX10_strokeNow 54 = .ok (.iconst 1, 1) := by decide +kernel
theorem dX10_strokeNow_55 : decode cX10_strokeNow 55 = .ok (.iaload, 1) := by decide +kernel
theorem dX10_strokeNow_56 : decode cX10_strokeNow 56 = .ok (.if_icmp .ge 40, 3) := by decide +kernel
theorem dX10_strokeNow_59 : decode cX10_strokeNow 59 = .ok (.iload 6, 2) := by decide +kernel
theorem dX10_strokeNow_61 : decode cX10_strokeNow 61 = .ok (.ifCond .eq 35, 3) := by decide +kernel
theorem dX10_strokeNow_64 : decode cX10_strokeNow 64 = .ok (.aload_n 0, 1) := by decide +kernel
theorem dX10_strokeNow_65 : decode cX10_strokeNow 65 = .ok (.getfield 7, 3) := by decide +kernel
theorem dX10_strokeNow_68 : decode cX10_strokeNow 68 = .ok (.bipush 35, 2) := by decide +kernel
theorem dX10_strokeNow_70 : decode cX10_strokeNow 70 = .ok (.iload 7, 2) := by decide +kernel
theorem dX10_strokeNow_72 : decode cX10_strokeNow 72 = .ok (.iadd, 1) := by decide +kernel
theorem dX10_strokeNow_73 : decode cX10_strokeNow 73 = .ok (.iaload, 1) := by decide +kernel
theorem dX10_strokeNow_74 : decode cX10_strokeNow 74 = .ok (.iload_n 2, 1) := by decide +kernel
theorem dX10_strokeNow_75 : decode cX10_strokeNow 75 = .ok (.if_icmp .ne 15, 3) := by decide +kernel
theorem dX10_strokeNow_78 : decode cX10_strokeNow 78 = .ok (.aload_n 0, 1) := by decide +kernel
theorem dX10_strokeNow_79 : decode cX10_strokeNow 79 = .ok (.getfield 7, 3) := by decide +kernel
theorem dX10_strokeNow_82 : decode cX10_strokeNow 82 = .ok (.bipush 35, 2) := by decide +kernel
theorem dX10_strokeNow_84 : decode cX10_strokeNow 84 = .ok (.iload 7, 2) := by decide +kernel
theorem dX10_strokeNow_86 : decode cX10_strokeNow 86 = .ok (.iadd, 1) := by decide +kernel
theorem dX10_strokeNow_87 : decode cX10_strokeNow 87 = .ok (.iload 5, 2) := by decide +kernel
theorem dX10_strokeNow_89 : decode cX10_strokeNow 89 = .ok (.iastore, 1) := by decide +kernel
theorem dX10_strokeNow_90 : decode cX10_strokeNow 90 = .ok (.iinc 7 1, 3) := by decide +kernel
theorem dX10_strokeNow_93 : decode cX10_strokeNow 93 = .ok (.goto (-45), 3) := by decide +kernel
theorem dX10_strokeNow_96 : decode cX10_strokeNow 96 = .ok (.aload_n 0, 1) := by decide +kernel
theorem dX10_strokeNow_97 : decode cX10_strokeNow 97 = .ok (.getfield 7, 3) := by decide +kernel
theorem dX10_strokeNow_100 : decode cX10_strokeNow 100 = .ok (.bipush 11, 2) := by decide +kernel
theorem dX10_strokeNow_102 : decode cX10_strokeNow 102 = .ok (.iload_n 2, 1) := by decide +kernel
theorem dX10_strokeNow_103 : decode cX10_strokeNow 103 = .ok (.iadd, 1) := by decide +kernel
theorem dX10_strokeNow_104 : decode cX10_strokeNow 104 = .ok (.dup2, 1) := by decide +kernel
theorem dX10_strokeNow_105 : decode cX10_strokeNow 105 = .ok (.iaload, 1) := by decide +kernel
theorem dX10_strokeNow_106 : decode cX10_strokeNow 106 = .ok (.iload 4, 2) := by decide +kernel
theorem dX10_strokeNow_108 : decode cX10_strokeNow 108 = .ok (.isub, 1) := by decide +kernel
theorem dX10_strokeNow_109 : decode cX10_strokeNow 109 = .ok (.iastore, 1) := by decide +kernel
theorem dX10_strokeNow_110 : decode cX10_strokeNow 110 = .ok (.aload_n 0, 1) := by decide +kernel
theorem dX10_strokeNow_111 : decode cX10_strokeNow 111 = .ok (.getfield 7, 3) := by decide +kernel
theorem dX10_strokeNow_114 : decode cX10_strokeNow 114 = .ok (.iload 5, 2) := by decide +kernel
theorem dX10_strokeNow_116 : decode cX10_strokeNow 116 = .ok (.iconst (-1), 1) := by decide +kernel
theorem dX10_strokeNow_117 : decode cX10_strokeNow 117 = .ok (.if_icmp .ne 8, 3) := by decide +kernel
theorem dX10_strokeNow_120 : decode cX10_strokeNow 120 = .ok (.bipush 9, 2) := by decide +kernel
theorem dX10_strokeNow_122 : decode cX10_strokeNow 122 = .ok (.goto 8, 3) := by decide +kernel
theorem dX10_strokeNow_125 : decode cX10_strokeNow 125 = .ok (.bipush 11, 2) := by decide +kernel
theorem dX10_strokeNow_127 : decode cX10_strokeNow 127 = .ok (.iload 5, 2) := by decide +kernel
theorem dX10_strokeNow_129 : decode cX10_strokeNow 129 = .ok (.iadd, 1) := by decide +kernel
theorem dX10_strokeNow_130 : decode cX10_strokeNow 130 = .ok (.dup2, 1) := by decide +kernel
theorem dX10_strokeNow_131 : decode cX10_strokeNow 131 = .ok (.iaload, 1) := by decide +kernel
theorem dX10_strokeNow_132 : decode cX10_strokeNow 132 = .ok (.iload 4, 2) := by decide +kernel
theorem dX10_strokeNow_134 : decode cX10_strokeNow 134 = .ok (.iadd, 1) := by decide +kernel
theorem dX10_strokeNow_135 : decode cX10_strokeNow 135 = .ok (.iastore, 1) := by decide +kernel
theorem dX10_strokeNow_136 : decode cX10_strokeNow 136 = .ok (.aload_n 0, 1) := by decide +kernel
theorem dX10_strokeNow_137 : decode cX10_strokeNow 137 = .ok (.getfield 7, 3) := by decide +kernel
theorem dX10_strokeNow_140 : decode cX10_strokeNow 140 = .ok (.bipush 23, 2) := by decide +kernel
theorem dX10_strokeNow_142 : decode cX10_strokeNow 142 = .ok (.iload_n 2, 1) := by decide +kernel
theorem dX10_strokeNow_143 : decode cX10_strokeNow 143 = .ok (.iadd, 1) := by decide +kernel
theorem dX10_strokeNow_144 : decode cX10_strokeNow 144 = .ok (.iaload, 1) := by decide +kernel
theorem dX10_strokeNow_145 : decode cX10_strokeNow 145 = .ok (.ifCond .ne 40, 3) := by decide +kernel
theorem dX10_strokeNow_148 : decode cX10_strokeNow 148 = .ok (.aload_n 0, 1) := by decide +kernel
theorem dX10_strokeNow_149 : decode cX10_strokeNow 149 = .ok (.getfield 7, 3) := by decide +kernel
theorem dX10_strokeNow_152 : decode cX10_strokeNow 152 = .ok (.bipush 11, 2) := by decide +kernel
theorem dX10_strokeNow_154 : decode cX10_strokeNow 154 = .ok (.iload_n 2, 1) := by decide +kernel
theorem dX10_strokeNow_155 : decode cX10_strokeNow 155 = .ok (.iadd, 1) := by decide +kernel
theorem dX10_strokeNow_156 : decode cX10_strokeNow 156 = .ok (.iaload, 1) := by decide +kernel
theorem dX10_strokeNow_157 : decode cX10_strokeNow 157 = .ok (.aload_n 0, 1) := by decide +kernel
theorem dX10_strokeNow_158 : decode cX10_strokeNow 158 = .ok (.iload_n 2, 1) := by decide +kernel
theorem dX10_strokeNow_159 : decode cX10_strokeNow 159 = .ok (.invokevirtual 294, 3) := by decide +kernel
theorem dX10_strokeNow_162 : decode cX10_strokeNow 162 = .ok (.if_icmp .ge 23, 3) := by decide +kernel
theorem dX10_strokeNow_165 : decode cX10_strokeNow 165 = .ok (.aload_n 0, 1) := by decide +kernel
theorem dX10_strokeNow_166 : decode cX10_strokeNow 166 = .ok (.getfield 7, 3) := by decide +kernel
theorem dX10_strokeNow_169 : decode cX10_strokeNow 169 = .ok (.bipush 23, 2) := by decide +kernel
theorem dX10_strokeNow_171 : decode cX10_strokeNow 171 = .ok (.iload_n 2, 1) := by decide +kernel
theorem dX10_strokeNow_172 : decode cX10_strokeNow 172 = .ok (.iadd, 1) := by decide +kernel
theorem dX10_strokeNow_173 : decode cX10_strokeNow 173 = .ok (.iconst 1, 1) := by decide +kernel
theorem dX10_strokeNow_174 : decode cX10_strokeNow 174 = .ok (.iastore, 1) := by decide +kernel
theorem dX10_strokeNow_175 : decode cX10_strokeNow 175 = .ok (.aload_n 0, 1) := by decide +kernel
theorem dX10_strokeNow_176 : decode cX10_strokeNow 176 = .ok (.dup, 1) := by decide +kernel
theorem dX10_strokeNow_177 : decode cX10_strokeNow 177 = .ok (.getfield 297, 3) := by decide +kernel
theorem dX10_strokeNow_180 : decode cX10_strokeNow 180 = .ok (.iconst 1, 1) := by decide +kernel
theorem dX10_strokeNow_181 : decode cX10_strokeNow 181 = .ok (.iadd, 1) := by decide +kernel
theorem dX10_strokeNow_182 : decode cX10_strokeNow 182 = .ok (.putfield 297, 3) := by decide +kernel
theorem dX10_strokeNow_185 : decode cX10_strokeNow 185 = .ok (.aload_n 0, 1) := by decide +kernel
theorem dX10_strokeNow_186 : decode cX10_strokeNow 186 = .ok (.iload_n 1, 1) := by decide +kernel
theorem dX10_strokeNow_187 : decode cX10_strokeNow 187 = .ok (.iconst 2, 1) := by decide +kernel
theorem dX10_strokeNow_188 : decode cX10_strokeNow 188 = .ok (.iload_n 2, 1) := by decide +kernel
theorem dX10_strokeNow_189 : decode cX10_strokeNow 189 = .ok (.imul, 1) := by decide +kernel
theorem dX10_strokeNow_190 : decode cX10_strokeNow 190 = .ok (.iload_n 3, 1) := by decide +kernel
theorem dX10_strokeNow_191 : decode cX10_strokeNow 191 = .ok (.ifCond .eq 7, 3) := by decide +kernel
theorem dX10_strokeNow_194 : decode cX10_strokeNow 194 = .ok (.iconst 1, 1) := by decide +kernel
theorem dX10_strokeNow_195 : decode cX10_strokeNow 195 = .ok (.goto 4, 3) := by decide +kernel
theorem dX10_strokeNow_198 : decode cX10_strokeNow 198 = .ok (.iconst 0, 1) := by decide +kernel
theorem dX10_strokeNow_199 : decode cX10_strokeNow 199 = .ok (.iadd, 1) := by decide +kernel
theorem dX10_strokeNow_200 : decode cX10_strokeNow 200 = .ok (.iload 4, 2) := by decide +kernel
theorem dX10_strokeNow_202 : decode cX10_strokeNow 202 = .ok (.invokevirtual 300, 3) := by decide +kernel
theorem dX10_strokeNow_205 : decode cX10_strokeNow 205 = .ok (.iload 4, 2) := by decide +kernel
theorem dX10_strokeNow_207 : decode cX10_strokeNow 207 = .ok (.ireturn, 1) := by decide +kernel
theorem dX10_pass_0 : decode cX10_pass 0 = .ok (.aload_n 0, 1) := by decide +kernel
theorem dX10_pass_1 : decode cX10_pass 1 = .ok (.getfield 7, 3) := by decide +kernel
theorem dX10_pass_4 : decode cX10_pass 4 = .ok (.iconst 0, 1) := by decide +kernel
theorem dX10_pass_5 : decode cX10_pass 5 = .ok (.iaload, 1) := by decide +kernel
theorem dX10_pass_6 : decode cX10_pass 6 = .ok (.ifCond .le 63, 3) := by decide +kernel
theorem dX10_pass_9 : decode cX10_pass 9 = .ok (.aload_n 0, 1) := by decide +kernel
theorem dX10_pass_10 : decode cX10_pass 10 = .ok (.getfield 7, 3) := by decide +kernel
theorem dX10_pass_13 : decode cX10_pass 13 = .ok (.bipush 6, 2) := by decide +kernel
theorem dX10_pass_15 : decode cX10_pass 15 = .ok (.iaload, 1) := by decide +kernel
theorem dX10_pass_16 : decode cX10_pass 16 = .ok (.aload_n 0, 1) := by decide +kernel
theorem dX10_pass_17 : decode cX10_pass 17 = .ok (.getfield 7, 3) := by decide +kernel
theorem dX10_pass_20 : decode cX10_pass 20 = .ok (.iconst 0, 1) := by decide +kernel
theorem dX10_pass_21 : decode cX10_pass 21 = .ok (.iaload, 1) := by decide +kernel
theorem dX10_pass_22 : decode cX10_pass 22 = .ok (.irem, 1) := by decide +kernel
theorem dX10_pass_23 : decode cX10_pass 23 = .ok (.istore_n 1, 1) := by decide +kernel
theorem dX10_pass_24 : decode cX10_pass 24 = .ok (.aload_n 0, 1) := by decide +kernel
theorem dX10_pass_25 : decode cX10_pass 25 = .ok (.bipush 12, 2) := by decide +kernel
theorem dX10_pass_27 : decode cX10_pass 27 = .ok (.invokevirtual 304, 3) := by decide +kernel
theorem dX10_pass_30 : decode cX10_pass 30 = .ok (.istore_n 2, 1) := by decide +kernel
theorem dX10_pass_31 : decode cX10_pass 31 = .ok (.aload_n 0, 1) := by decide +kernel
theorem dX10_pass_32 : decode cX10_pass 32 = .ok (.iconst 2, 1) := by decide +kernel
theorem dX10_pass_33 : decode cX10_pass 33 = .ok (.invokevirtual 304, 3) := by decide +kernel
theorem dX10_pass_36 : decode cX10_pass 36 = .ok (.iconst 1, 1) := by decide +kernel
theorem dX10_pass_37 : decode cX10_pass 37 = .ok (.if_icmp .ne 7, 3) := by decide +kernel
theorem dX10_pass_40 : decode cX10_pass 40 = .ok (.iconst 1, 1) := by decide +kernel
theorem dX10_pass_41 : decode cX10_pass 41 = .ok (.goto 4, 3) := by decide +kernel
theorem dX10_pass_44 : decode cX10_pass 44 = .ok (.iconst 0, 1) := by decide +kernel
theorem dX10_pass_45 : decode cX10_pass 45 = .ok (.istore_n 3, 1) := by decide +kernel
