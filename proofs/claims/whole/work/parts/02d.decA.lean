theorem dX3_init_0 : decode cX3_init 0 = .ok (.aload_n 0, 1) := by decide +kernel
theorem dX3_init_1 : decode cX3_init 1 = .ok (.invokespecial 3, 3) := by decide +kernel
theorem dX3_init_4 : decode cX3_init 4 = .ok (.aload_n 0, 1) := by decide +kernel
theorem dX3_init_5 : decode cX3_init 5 = .ok (.bipush 13, 2) := by decide +kernel
theorem dX3_init_7 : decode cX3_init 7 = .ok (.newarray .int, 2) := by decide +kernel
theorem dX3_init_9 : decode cX3_init 9 = .ok (.putfield 11, 3) := by decide +kernel
theorem dX3_init_12 : decode cX3_init 12 = .ok (.aload_n 0, 1) := by decide +kernel
theorem dX3_init_13 : decode cX3_init 13 = .ok (.bipush 91, 2) := by decide +kernel
theorem dX3_init_15 : decode cX3_init 15 = .ok (.newarray .int, 2) := by decide +kernel
theorem dX3_init_17 : decode cX3_init 17 = .ok (.putfield 15, 3) := by decide +kernel
theorem dX3_init_20 : decode cX3_init 20 = .ok (.return_, 1) := by decide +kernel
theorem dX3_sum_0 : decode cX3_sum 0 = .ok (.iconst 0, 1) := by decide +kernel
theorem dX3_sum_1 : decode cX3_sum 1 = .ok (.istore_n 3, 1) := by decide +kernel
theorem dX3_sum_2 : decode cX3_sum 2 = .ok (.iconst 0, 1) := by decide +kernel
theorem dX3_sum_3 : decode cX3_sum 3 = .ok (.iload_n 1, 1) := by decide +kernel
theorem dX3_sum_4 : decode cX3_sum 4 = .ok (.invokestatic 18, 3) := by decide +kernel
theorem dX3_sum_7 : decode cX3_sum 7 = .ok (.istore 4, 2) := by decide +kernel
theorem dX3_sum_9 : decode cX3_sum 9 = .ok (.iload 4, 2) := by decide +kernel
theorem dX3_sum_11 : decode cX3_sum 11 = .ok (.iload_n 2, 1) := by decide +kernel
theorem dX3_sum_12 : decode cX3_sum 12 = .ok (.if_icmp .ge 23, 3) := by decide +kernel
theorem dX3_sum_15 : decode cX3_sum 15 = .ok (.iload 4, 2) := by decide +kernel
theorem dX3_sum_17 : decode cX3_sum 17 = .ok (.aload_n 0, 1) := by decide +kernel
theorem dX3_sum_18 : decode cX3_sum 18 = .ok (.arraylength, 1) := by decide +kernel
theorem dX3_sum_19 : decode cX3_sum 19 = .ok (.if_icmp .ge 16, 3) := by decide +kernel
theorem dX3_sum_22 : decode cX3_sum 22 = .ok (.iload_n 3, 1) := by decide +kernel
theorem dX3_sum_23 : decode cX3_sum 23 = .ok (.aload_n 0, 1) := by decide +kernel
theorem dX3_sum_24 : decode cX3_sum 24 = .ok (.iload 4, 2) := by decide +kernel
theorem dX3_sum_26 : decode cX3_sum 26 = .ok (.iaload, 1) := by decide +kernel
theorem dX3_sum_27 : decode cX3_sum 27 = .ok (.iadd, 1) := by decide +kernel
theorem dX3_sum_28 : decode cX3_sum 28 = .ok (.istore_n 3, 1) := by decide +kernel
theorem dX3_sum_29 : decode cX3_sum 29 = .ok (.iinc 4 1, 3) := by decide +kernel
theorem dX3_sum_32 : decode cX3_sum 32 = .ok (.goto (-23), 3) := by decide +kernel
theorem dX3_sum_35 : decode cX3_sum 35 = .ok (.iload_n 3, 1) := by decide +kernel
theorem dX3_sum_36 : decode cX3_sum 36 = .ok (.ireturn, 1) := by decide +kernel
theorem dX3_water_0 : decode cX3_water 0 = .ok (.iconst 0, 1) := by decide +kernel
theorem dX3_water_1 : decode cX3_water 1 = .ok (.istore_n 1, 1) := by decide +kernel
theorem dX3_water_2 : decode cX3_water 2 = .ok (.iconst 0, 1) := by decide +kernel
theorem dX3_water_3 : decode cX3_water 3 = .ok (.istore_n 2, 1) := by decide +kernel
theorem dX3_water_4 : decode cX3_water 4 = .ok (.iload_n 2, 1) := by decide +kernel
theorem dX3_water_5 : decode cX3_water 5 = .ok (.bipush 12, 2) := by decide +kernel
theorem dX3_water_7 : decode cX3_water 7 = .ok (.if_icmp .ge 75, 3) := by decide +kernel
theorem dX3_water_10 : decode cX3_water 10 = .ok (.iconst 0, 1) := by decide +kernel
theorem dX3_water_11 : decode cX3_water 11 = .ok (.istore_n 3, 1) := by decide +kernel
theorem dX3_water_12 : decode cX3_water 12 = .ok (.iconst 0, 1) := by decide +kernel
theorem dX3_water_13 : decode cX3_water 13 = .ok (.istore 4, 2) := by decide +kernel
theorem dX3_water_15 : decode cX3_water 15 = .ok (.iconst 0, 1) := by decide +kernel
theorem dX3_water_16 : decode cX3_water 16 = .ok (.istore 5, 2) := by decide +kernel
theorem dX3_water_18 : decode cX3_water 18 = .ok (.iload 5, 2) := by decide +kernel
theorem dX3_water_20 : decode cX3_water 20 = .ok (.bipush 12, 2) := by decide +kernel
theorem dX3_water_22 : decode cX3_water 22 = .ok (.if_icmp .ge 41, 3) := by decide +kernel
theorem dX3_water_25 : decode cX3_water 25 = .ok (.iload 5, 2) := by decide +kernel
theorem dX3_water_27 : decode cX3_water 27 = .ok (.iload_n 2, 1) := by decide +kernel
theorem dX3_water_28 : decode cX3_water 28 = .ok (.if_icmp .gt 12, 3) := by decide +kernel
theorem dX3_water_31 : decode cX3_water 31 = .ok (.iload_n 3, 1) := by decide +kernel
theorem dX3_water_32 : decode cX3_water 32 = .ok (.aload_n 0, 1) := by decide +kernel
theorem dX3_water_33 : decode cX3_water 33 = .ok (.iload 5, 2) := by decide +kernel
theorem dX3_water_35 : decode cX3_water 35 = .ok (.iaload, 1) := by decide +kernel
theorem dX3_water_36 : decode cX3_water 36 = .ok (.invokestatic 18, 3) := by decide +kernel
theorem dX3_water_39 : decode cX3_water 39 = .ok (.istore_n 3, 1) := by decide +kernel
theorem dX3_water_40 : decode cX3_water 40 = .ok (.iload 5, 2) := by decide +kernel
theorem dX3_water_42 : decode cX3_water 42 = .ok (.iload_n 2, 1) := by decide +kernel
theorem dX3_water_43 : decode cX3_water 43 = .ok (.if_icmp .lt 14, 3) := by decide +kernel
theorem dX3_water_46 : decode cX3_water 46 = .ok (.iload 4, 2) := by decide +kernel
theorem dX3_water_48 : decode cX3_water 48 = .ok (.aload_n 0, 1) := by decide +kernel
theorem dX3_water_49 : decode cX3_water 49 = .ok (.iload 5, 2) := by decide +kernel
theorem dX3_water_51 : decode cX3_water 51 = .ok (.iaload, 1) := by decide +kernel
theorem dX3_water_52 : decode cX3_water 52 = .ok (.invokestatic 18, 3) := by decide +kernel
theorem dX3_water_55 : decode cX3_water 55 = .ok (.istore 4, 2) := by decide +kernel
theorem dX3_water_57 : decode cX3_water 57 = .ok (.iinc 5 1, 3) := by decide +kernel
theorem dX3_water_60 : decode cX3_water 60 = .ok (.goto (-42), 3) := by decide +kernel
theorem dX3_water_63 : decode cX3_water 63 = .ok (.iload_n 1, 1) := by decide +kernel
theorem dX3_water_64 : decode cX3_water 64 = .ok (.iload_n 3, 1) := by decide +kernel
theorem dX3_water_65 : decode cX3_water 65 = .ok (.iload 4, 2) := by decide +kernel
theorem dX3_water_67 : decode cX3_water 67 = .ok (.invokestatic 24, 3) := by decide +kernel
theorem dX3_water_70 : decode cX3_water 70 = .ok (.aload_n 0, 1) := by decide +kernel
theorem dX3_water_71 : decode cX3_water 71 = .ok (.iload_n 2, 1) := by decide +kernel
theorem dX3_water_72 : decode cX3_water 72 = .ok (.iaload, 1) := by decide +kernel
theorem dX3_water_73 : decode cX3_water 73 = .ok (.isub, 1) := by decide +kernel
theorem dX3_water_74 : decode cX3_water 74 = .ok (.iadd, 1) := by decide +kernel
theorem dX3_water_75 : decode cX3_water 75 = .ok (.istore_n 1, 1) := by decide +kernel
theorem dX3_water_76 : decode cX3_water 76 = .ok (.iinc 2 1, 3) := by decide +kernel
theorem dX3_water_79 : decode cX3_water 79 = .ok (.goto (-75), 3) := by decide +kernel
theorem dX3_water_82 : decode cX3_water 82 = .ok (.iload_n 1, 1) := by decide +kernel
theorem dX3_water_83 : decode cX3_water 83 = .ok (.ireturn, 1) := by decide +kernel
theorem dX3_glazed_0 : decode cX3_glazed 0 = .ok (.iconst (-1), 1) := by decide +kernel
theorem dX3_glazed_1 : decode cX3_glazed 1 = .ok (.istore_n 2, 1) := by decide +kernel
theorem dX3_glazed_2 : decode cX3_glazed 2 = .ok (.iconst 0, 1) := by decide +kernel
theorem dX3_glazed_3 : decode cX3_glazed 3 = .ok (.istore_n 3, 1) := by decide +kernel
theorem dX3_glazed_4 : decode cX3_glazed 4 = .ok (.iconst 0, 1) := by decide +kernel
theorem dX3_glazed_5 : decode cX3_glazed 5 = .ok (.istore 4, 2) := by decide +kernel
theorem dX3_glazed_7 : decode cX3_glazed 7 = .ok (.iconst 0, 1) := by decide +kernel
theorem dX3_glazed_8 : decode cX3_glazed 8 = .ok (.istore 5, 2) := by decide +kernel
theorem dX3_glazed_10 : decode cX3_glazed 10 = .ok (.iload 5, 2) := by decide +kernel
theorem dX3_glazed_12 : decode cX3_glazed 12 = .ok (.bipush 12, 2) := by decide +kernel
theorem dX3_glazed_14 : decode cX3_glazed 14 = .ok (.if_icmp .ge 76, 3) := by decide +kernel
theorem dX3_glazed_17 : decode cX3_glazed 17 = .ok (.aload_n 0, 1) := by decide +kernel
theorem dX3_glazed_18 : decode cX3_glazed 18 = .ok (.iload 5, 2) := by decide +kernel
theorem dX3_glazed_20 : decode cX3_glazed 20 = .ok (.iaload, 1) := by decide +kernel
theorem dX3_glazed_21 : decode cX3_glazed 21 = .ok (.istore 6, 2) := by decide +kernel
theorem dX3_glazed_23 : decode cX3_glazed 23 = .ok (.iload 5, 2) := by decide +kernel
theorem dX3_glazed_25 : decode cX3_glazed 25 = .ok (.istore 7, 2) := by decide +kernel
theorem dX3_glazed_27 : decode cX3_glazed 27 = .ok (.iload 7, 2) := by decide +kernel
theorem dX3_glazed_29 : decode cX3_glazed 29 = .ok (.bipush 12, 2) := by decide +kernel
theorem dX3_glazed_31 : decode cX3_glazed 31 = .ok (.if_icmp .ge 53, 3) := by decide +kernel
theorem dX3_glazed_34 : decode cX3_glazed 34 = .ok (.iload 6, 2) := by decide +kernel
theorem dX3_glazed_36 : decode cX3_glazed 36 = .ok (.aload_n 0, 1) := by decide +kernel
theorem dX3_glazed_37 : decode cX3_glazed 37 = .ok (.iload 7, 2) := by decide +kernel
theorem dX3_glazed_39 : decode cX3_glazed 39 = .ok (.iaload, 1) := by decide +kernel
theorem dX3_glazed_40 : decode cX3_glazed 40 = .ok (.invokestatic 24, 3) := by decide +kernel
theorem dX3_glazed_43 : decode cX3_glazed 43 = .ok (.istore 6, 2) := by decide +kernel
theorem dX3_glazed_45 : decode cX3_glazed 45 = .ok (.iload 6, 2) := by decide +kernel
theorem dX3_glazed_47 : decode cX3_glazed 47 = .ok (.iload 7, 2) := by decide +kernel
theorem dX3_glazed_49 : decode cX3_glazed 49 = .ok (.iload 5, 2) := by decide +kernel
theorem dX3_glazed_51 : decode cX3_glazed 51 = .ok (.isub, 1) := by decide +kernel
theorem dX3_glazed_52 : decode cX3_glazed 52 = .ok (.iconst 1, 1) := by decide +kernel
theorem dX3_glazed_53 : decode cX3_glazed 53 = .ok (.iadd, 1) := by decide +kernel
theorem dX3_glazed_54 : decode cX3_glazed 54 = .ok (.imul, 1) := by decide +kernel
theorem dX3_glazed_55 : decode cX3_glazed 55 = .ok (.istore 8, 2) := by decide +kernel
theorem dX3_glazed_57 : decode cX3_glazed 57 = .ok (.iload 8, 2) := by decide +kernel
theorem dX3_glazed_59 : decode cX3_glazed 59 = .ok (.iload_n 2, 1) := by decide +kernel
theorem dX3_glazed_60 : decode cX3_glazed 60 = .ok (.if_icmp .le 18, 3) := by decide +kernel
theorem dX3_glazed_63 : decode cX3_glazed 63 = .ok (.iload 8, 2) := by decide +kernel
theorem dX3_glazed_65 : decode cX3_glazed 65 = .ok (.istore_n 2, 1) := by decide +kernel
theorem dX3_glazed_66 : decode cX3_glazed 66 = .ok (.iload 5, 2) := by decide +kernel
theorem dX3_glazed_68 : decode cX3_glazed 68 = .ok (.istore_n 3, 1) := by decide +kernel
theorem dX3_glazed_69 : decode cX3_glazed 69 = .ok (.iload 7, 2) := by decide +kernel
theorem dX3_glazed_71 : decode cX3_glazed 71 = .ok (.iload 5, 2) := by decide +kernel
theorem dX3_glazed_73 : decode cX3_glazed 73 = .ok (.isub, 1) := by decide +kernel
theorem dX3_glazed_74 : decode cX3_glazed 74 = .ok (.iconst 1, 1) := by decide +kernel
theorem dX3_glazed_75 : decode cX3_glazed 75 = .ok (.iadd, 1) := by decide +kernel
theorem dX3_glazed_76 : decode cX3_glazed 76 = .ok (.istore 4, 2) := by decide +kernel
theorem dX3_glazed_78 : decode cX3_glazed 78 = .ok (.iinc 7 1, 3) := by decide +kernel
theorem dX3_glazed_81 : decode cX3_glazed 81 = .ok (.goto (-54), 3) := by decide +kernel
theorem dX3_glazed_84 : decode cX3_glazed 84 = .ok (.iinc 5 1, 3) := by decide +kernel
theorem dX3_glazed_87 : decode cX3_glazed 87 = .ok (.goto (-77), 3) := by decide +kernel
theorem dX3_glazed_90 : decode cX3_glazed 90 = .ok (.iload_n 1, 1) := by decide +kernel
theorem dX3_glazed_91 : decode cX3_glazed 91 = .ok (.ifCond .ne 7, 3) := by decide +kernel
theorem dX3_glazed_94 : decode cX3_glazed 94 = .ok (.iload_n 2, 1) := by decide +kernel
theorem dX3_glazed_95 : decode cX3_glazed 95 = .ok (.goto 14, 3) := by decide +kernel
theorem dX3_glazed_98 : decode cX3_glazed 98 = .ok (.iload_n 1, 1) := by decide +kernel
theorem dX3_glazed_99 : decode cX3_glazed 99 = .ok (.iconst 1, 1) := by decide +kernel
theorem dX3_glazed_100 : decode cX3_glazed 100 = .ok (.if_icmp .ne 7, 3) := by decide +kernel
theorem dX3_glazed_103 : decode cX3_glazed 103 = .ok (.iload_n 3, 1) := by decide +kernel
theorem dX3_glazed_104 : decode cX3_glazed 104 = .ok (.goto 5, 3) := by decide +kernel
theorem dX3_glazed_107 : decode cX3_glazed 107 = .ok (.iload 4, 2) := by decide +kernel
theorem dX3_glazed_109 : decode cX3_glazed 109 = .ok (.ireturn, 1) := by decide +kernel
theorem dX3_climb_0 : decode cX3_climb 0 = .ok (.iconst 0, 1) := by decide +kernel
theorem dX3_climb_1 : decode cX3_climb 1 = .ok (.istore_n 3, 1) := by decide +kernel
theorem dX3_climb_2 : decode cX3_climb 2 = .ok (.bipush 11, 2) := by decide +kernel
theorem dX3_climb_4 : decode cX3_climb 4 = .ok (.istore 4, 2) := by decide +kernel
theorem dX3_climb_6 : decode cX3_climb 6 = .ok (.iload 4, 2) := by decide +kernel
theorem dX3_climb_8 : decode cX3_climb 8 = .ok (.ifCond .lt 85, 3) := by decide +kernel
theorem dX3_climb_11 : decode cX3_climb 11 = .ok (.aload_n 0, 1) := by decide +kernel
theorem dX3_climb_12 : decode cX3_climb 12 = .ok (.getfield 11, 3) := by decide +kernel
theorem dX3_climb_15 : decode cX3_climb 15 = .ok (.iload 4, 2) := by decide +kernel
theorem dX3_climb_17 : decode cX3_climb 17 = .ok (.iconst 1, 1) := by decide +kernel
theorem dX3_climb_18 : decode cX3_climb 18 = .ok (.iastore, 1) := by decide +kernel
theorem dX3_climb_19 : decode cX3_climb 19 = .ok (.iload 4, 2) := by decide +kernel
theorem dX3_climb_21 : decode cX3_climb 21 = .ok (.iconst 1, 1) := by decide +kernel
theorem dX3_climb_22 : decode cX3_climb 22 = .ok (.iadd, 1) := by decide +kernel
theorem dX3_climb_23 : decode cX3_climb 23 = .ok (.istore 5, 2) := by decide +kernel
theorem dX3_climb_25 : decode cX3_climb 25 = .ok (.iload 5, 2) := by decide +kernel
theorem dX3_climb_27 : decode cX3_climb 27 = .ok (.bipush 12, 2) := by decide +kernel
theorem dX3_climb_29 : decode cX3_climb 29 = .ok (.if_icmp .ge 46, 3) := by decide +kernel
theorem dX3_climb_32 : decode cX3_climb 32 = .ok (.aload_n 1, 1) := by decide +kernel
theorem dX3_climb_33 : decode cX3_climb 33 = .ok (.iload 5, 2) := by decide +kernel
theorem dX3_climb_35 : decode cX3_climb 35 = .ok (.iaload, 1) := by decide +kernel
theorem dX3_climb_36 : decode cX3_climb 36 = .ok (.aload_n 1, 1) := by decide +kernel
theorem dX3_climb_37 : decode cX3_climb 37 = .ok (.iload 4, 2) := by decide +kernel
theorem dX3_climb_39 : decode cX3_climb 39 = .ok (.iaload, 1) := by decide +kernel
theorem dX3_climb_40 : decode cX3_climb 40 = .ok (.if_icmp .le 29, 3) := by decide +kernel
theorem dX3_climb_43 : decode cX3_climb 43 = .ok (.aload_n 0, 1) := by decide +kernel
theorem dX3_climb_44 : decode cX3_climb 44 = .ok (.getfield 11, 3) := by decide +kernel
theorem dX3_climb_47 : decode cX3_climb 47 = .ok (.iload 4, 2) := by decide +kernel
theorem dX3_climb_49 : decode cX3_climb 49 = .ok (.aload_n 0, 1) := by decide +kernel
theorem dX3_climb_50 : decode cX3_climb 50 = .ok (.getfield 11, 3) := by decide +kernel
theorem dX3_climb_53 : decode cX3_climb 53 = .ok (.iload 4, 2) := by decide +kernel
theorem dX3_climb_55 : decode cX3_climb 55 = .ok (.iaload, 1) := by decide +kernel
theorem dX3_climb_56 : decode cX3_climb 56 = .ok (.aload_n 0, 1) := by decide +kernel
theorem dX3_climb_57 : decode cX3_climb 57 = .ok (.getfield 11, 3) := by decide +kernel
theorem dX3_climb_60 : decode cX3_climb 60 = .ok (.iload 5, 2) := by decide +kernel
theorem dX3_climb_62 : decode cX3_climb 62 = .ok (.iaload, 1) := by decide +kernel
theorem dX3_climb_63 : decode cX3_climb 63 = .ok (.iconst 1, 1) := by decide +kernel
theorem dX3_climb_64 : decode cX3_climb 64 = .ok (.iadd, 1) := by decide +kernel
theorem dX3_climb_65 : decode cX3_climb 65 = .ok (.invokestatic 18, 3) := by decide +kernel
theorem dX3_climb_68 : decode cX3_climb 68 = .ok (.iastore, 1) := by decide +kernel
theorem dX3_climb_69 : decode cX3_climb 69 = .ok (.iinc 5 1, 3) := by decide +kernel
theorem dX3_climb_72 : decode cX3_climb 72 = .ok (.goto (-47), 3) := by decide +kernel
theorem dX3_climb_75 : decode cX3_climb 75 = .ok (.iload_n 3, 1) := by decide +kernel
theorem dX3_climb_76 : decode cX3_climb 76 = .ok (.aload_n 0, 1) := by decide +kernel
theorem dX3_climb_77 : decode cX3_climb 77 = .ok (.getfield 11, 3) := by decide +kernel
theorem dX3_climb_80 : decode cX3_climb 80 = .ok (.iload 4, 2) := by decide +kernel
theorem dX3_climb_82 : decode cX3_climb 82 = .ok (.iaload, 1) := by decide +kernel
theorem dX3_climb_83 : decode cX3_climb 83 = .ok (.invokestatic 18, 3) := by decide +kernel
theorem dX3_climb_86 : decode cX3_climb 86 = .ok (.istore_n 3, 1) := by decide +kernel
theorem dX3_climb_87 : decode cX3_climb 87 = .ok (.iinc 4 (-1), 3) := by decide +kernel
theorem dX3_climb_90 : decode cX3_climb 90 = .ok (.goto (-84), 3) := by decide +kernel
theorem dX3_climb_93 : decode cX3_climb 93 = .ok (.iload_n 2, 1) := by decide +kernel
theorem dX3_climb_94 : decode cX3_climb 94 = .ok (.iconst (-1), 1) := by decide +kernel
theorem dX3_climb_95 : decode cX3_climb 95 = .ok (.if_icmp .ne 5, 3) := by decide +kernel
theorem dX3_climb_98 : decode cX3_climb 98 = .ok (.iload_n 3, 1) := by decide +kernel
theorem dX3_climb_99 : decode cX3_climb 99 = .ok (.ireturn, 1) := by decide +kernel
theorem dX3_climb_100 : decode cX3_climb 100 = .ok (.iload_n 2, 1) := by decide +kernel
theorem dX3_climb_101 : decode cX3_climb 101 = .ok (.ifCond .lt 8, 3) := by decide +kernel
theorem dX3_climb_104 : decode cX3_climb 104 = .ok (.iload_n 2, 1) := by decide +kernel
theorem dX3_climb_105 : decode cX3_climb 105 = .ok (.iload_n 3, 1) := by decide +kernel
theorem dX3_climb_106 : decode cX3_climb 106 = .ok (.if_icmp .lt 6, 3) := by decide +kernel
theorem dX3_climb_109 : decode cX3_climb 109 = .ok (.bipush (-2), 2) := by decide +kernel
theorem dX3_climb_111 : decode cX3_climb 111 = .ok (.ireturn, 1) := by decide +kernel
theorem dX3_climb_112 : decode cX3_climb 112 = .ok (.aload_n 0, 1) := by decide +kernel
theorem dX3_climb_113 : decode cX3_climb 113 = .ok (.aload_n 1, 1) := by decide +kernel
theorem dX3_climb_114 : decode cX3_climb 114 = .ok (.iload_n 3, 1) := by decide +kernel
theorem dX3_climb_115 : decode cX3_climb 115 = .ok (.iload_n 2, 1) := by decide +kernel
theorem dX3_climb_116 : decode cX3_climb 116 = .ok (.invokevirtual 27, 3) := by decide +kernel
theorem dX3_climb_119 : decode cX3_climb 119 = .ok (.ireturn, 1) := by decide +kernel
theorem dX3_climbed_0 : decode cX3_climbed 0 = .ok (.iconst (-1), 1) := by decide +kernel
theorem dX3_climbed_1 : decode cX3_climbed 1 = .ok (.istore 4, 2) := by decide +kernel
theorem dX3_climbed_3 : decode cX3_climbed 3 = .ok (.iload_n 2, 1) := by decide +kernel
theorem dX3_climbed_4 : decode cX3_climbed 4 = .ok (.istore 5, 2) := by decide +kernel
theorem dX3_climbed_6 : decode cX3_climbed 6 = .ok (.iconst 0, 1) := by decide +kernel
theorem dX3_climbed_7 : decode cX3_climbed 7 = .ok (.istore 6, 2) := by decide +kernel
theorem dX3_climbed_9 : decode cX3_climbed 9 = .ok (.iload 6, 2) := by decide +kernel
theorem dX3_climbed_11 : decode cX3_climbed 11 = .ok (.bipush 12, 2) := by decide +kernel
theorem dX3_climbed_13 : decode cX3_climbed 13 = .ok (.if_icmp .ge 50, 3) := by decide +kernel
theorem dX3_climbed_16 : decode cX3_climbed 16 = .ok (.aload_n 0, 1) := by decide +kernel
theorem dX3_climbed_17 : decode cX3_climbed 17 = .ok (.getfield 11, 3) := by decide +kernel
theorem dX3_climbed_20 : decode cX3_climbed 20 = .ok (.iload 6, 2) := by decide +kernel
theorem dX3_climbed_22 : decode cX3_climbed 22 = .ok (.iaload, 1) := by decide +kernel
theorem dX3_climbed_23 : decode cX3_climbed 23 = .ok (.iload 5, 2) := by decide +kernel
theorem dX3_climbed_25 : decode cX3_climbed 25 = .ok (.if_icmp .ne 32, 3) := by decide +kernel
theorem dX3_climbed_28 : decode cX3_climbed 28 = .ok (.aload_n 1, 1) := by decide +kernel
theorem dX3_climbed_29 : decode cX3_climbed 29 = .ok (.iload 6, 2) := by decide +kernel
theorem dX3_climbed_31 : decode cX3_climbed 31 = .ok (.iaload, 1) := by decide +kernel
theorem dX3_climbed_32 : decode cX3_climbed 32 = .ok (.iload 4, 2) := by decide +kernel
theorem dX3_climbed_34 : decode cX3_climbed 34 = .ok (.if_icmp .le 23, 3) := by decide +kernel
theorem dX3_climbed_37 : decode cX3_climbed 37 = .ok (.iload_n 2, 1) := by decide +kernel
theorem dX3_climbed_38 : decode cX3_climbed 38 = .ok (.iload 5, 2) := by decide +kernel
theorem dX3_climbed_40 : decode cX3_climbed 40 = .ok (.isub, 1) := by decide +kernel
theorem dX3_climbed_41 : decode cX3_climbed 41 = .ok (.iload_n 3, 1) := by decide +kernel
theorem dX3_climbed_42 : decode cX3_climbed 42 = .ok (.if_icmp .ne 6, 3) := by decide +kernel
theorem dX3_climbed_45 : decode cX3_climbed 45 = .ok (.iload 6, 2) := by decide +kernel
theorem dX3_climbed_47 : decode cX3_climbed 47 = .ok (.ireturn, 1) := by decide +kernel
theorem dX3_climbed_48 : decode cX3_climbed 48 = .ok (.aload_n 1, 1) := by decide +kernel
theorem dX3_climbed_49 : decode cX3_climbed 49 = .ok (.iload 6, 2) := by decide +kernel
theorem dX3_climbed_51 : decode cX3_climbed 51 = .ok (.iaload, 1) := by decide +kernel
theorem dX3_climbed_52 : decode cX3_climbed 52 = .ok (.istore 4, 2) := by decide +kernel
theorem dX3_climbed_54 : decode cX3_climbed 54 = .ok (.iinc 5 (-1), 3) := by decide +kernel
theorem dX3_climbed_57 : decode cX3_climbed 57 = .ok (.iinc 6 1, 3) := by decide +kernel
theorem dX3_climbed_60 : decode cX3_climbed 60 = .ok (.goto (-51), 3) := by decide +kernel
theorem dX3_climbed_63 : decode cX3_climbed 63 = .ok (.bipush (-2), 2) := by decide +kernel
theorem dX3_climbed_65 : decode cX3_climbed 65 = .ok (.ireturn, 1) := by decide +kernel
theorem dX3_falls_0 : decode cX3_falls 0 = .ok (.iconst 0, 1) := by decide +kernel
theorem dX3_falls_1 : decode cX3_falls 1 = .ok (.istore_n 1, 1) := by decide +kernel
theorem dX3_falls_2 : decode cX3_falls 2 = .ok (.iconst 0, 1) := by decide +kernel
theorem dX3_falls_3 : decode cX3_falls 3 = .ok (.istore_n 2, 1) := by decide +kernel
theorem dX3_falls_4 : decode cX3_falls 4 = .ok (.iload_n 2, 1) := by decide +kernel
theorem dX3_falls_5 : decode cX3_falls 5 = .ok (.bipush 12, 2) := by decide +kernel
theorem dX3_falls_7 : decode cX3_falls 7 = .ok (.if_icmp .ge 37, 3) := by decide +kernel
theorem dX3_falls_10 : decode cX3_falls 10 = .ok (.iload_n 2, 1) := by decide +kernel
theorem dX3_falls_11 : decode cX3_falls 11 = .ok (.iconst 1, 1) := by decide +kernel
theorem dX3_falls_12 : decode cX3_falls 12 = .ok (.iadd, 1) := by decide +kernel
theorem dX3_falls_13 : decode cX3_falls 13 = .ok (.istore_n 3, 1) := by decide +kernel
theorem dX3_falls_14 : decode cX3_falls 14 = .ok (.iload_n 3, 1) := by decide +kernel
theorem dX3_falls_15 : decode cX3_falls 15 = .ok (.bipush 12, 2) := by decide +kernel
theorem dX3_falls_17 : decode cX3_falls 17 = .ok (.if_icmp .ge 21, 3) := by decide +kernel
theorem dX3_falls_20 : decode cX3_falls 20 = .ok (.aload_n 0, 1) := by decide +kernel
theorem dX3_falls_21 : decode cX3_falls 21 = .ok (.iload_n 2, 1) := by decide +kernel
theorem dX3_falls_22 : decode cX3_falls 22 = .ok (.iaload, 1) := by decide +kernel
theorem dX3_falls_23 : decode cX3_falls 23 = .ok (.aload_n 0, 1) := by decide +kernel
theorem dX3_falls_24 : decode cX3_falls 24 = .ok (.iload_n 3, 1) := by decide +kernel
theorem dX3_falls_25 : decode cX3_falls 25 = .ok (.iaload, 1) := by decide +kernel
theorem dX3_falls_26 : decode cX3_falls 26 = .ok (.if_icmp .le 6, 3) := by decide +kernel
theorem dX3_falls_29 : decode cX3_falls 29 = .ok (.iinc 1 1, 3) := by decide +kernel
theorem dX3_falls_32 : decode cX3_falls 32 = .ok (.iinc 3 1, 3) := by decide +kernel
theorem dX3_falls_35 : decode cX3_falls 35 = .ok (.goto (-21), 3) := by decide +kernel
theorem dX3_falls_38 : decode cX3_falls 38 = .ok (.iinc 2 1, 3) := by decide +kernel
theorem dX3_falls_41 : decode cX3_falls 41 = .ok (.goto (-37), 3) := by decide +kernel
theorem dX3_falls_44 : decode cX3_falls 44 = .ok (.iload_n 1, 1) := by decide +kernel
theorem dX3_falls_45 : decode cX3_falls 45 = .ok (.ireturn, 1) := by decide +kernel
theorem dX3_tops_0 : decode cX3_tops 0 = .ok (.iconst 0, 1) := by decide +kernel
theorem dX3_tops_1 : decode cX3_tops 1 = .ok (.istore_n 1, 1) := by decide +kernel
theorem dX3_tops_2 : decode cX3_tops 2 = .ok (.iconst 0, 1) := by decide +kernel
theorem dX3_tops_3 : decode cX3_tops 3 = .ok (.istore_n 2, 1) := by decide +kernel
theorem dX3_tops_4 : decode cX3_tops 4 = .ok (.iload_n 2, 1) := by decide +kernel
theorem dX3_tops_5 : decode cX3_tops 5 = .ok (.bipush 12, 2) := by decide +kernel
theorem dX3_tops_7 : decode cX3_tops 7 = .ok (.if_icmp .ge 69, 3) := by decide +kernel
theorem dX3_tops_10 : decode cX3_tops 10 = .ok (.iload_n 2, 1) := by decide +kernel
theorem dX3_tops_11 : decode cX3_tops 11 = .ok (.ifCond .eq 14, 3) := by decide +kernel
theorem dX3_tops_14 : decode cX3_tops 14 = .ok (.aload_n 0, 1) := by decide +kernel
theorem dX3_tops_15 : decode cX3_tops 15 = .ok (.iload_n 2, 1) := by decide +kernel
theorem dX3_tops_16 : decode cX3_tops 16 = .ok (.iaload, 1) := by decide +kernel
theorem dX3_tops_17 : decode cX3_tops 17 = .ok (.aload_n 0, 1) := by decide +kernel
theorem dX3_tops_18 : decode cX3_tops 18 = .ok (.iload_n 2, 1) := by decide +kernel
theorem dX3_tops_19 : decode cX3_tops 19 = .ok (.iconst 1, 1) := by decide +kernel
theorem dX3_tops_20 : decode cX3_tops 20 = .ok (.isub, 1) := by decide +kernel
theorem dX3_tops_21 : decode cX3_tops 21 = .ok (.iaload, 1) := by decide +kernel
theorem dX3_tops_22 : decode cX3_tops 22 = .ok (.if_icmp .le 7, 3) := by decide +kernel
theorem dX3_tops_25 : decode cX3_tops 25 = .ok (.iconst 1, 1) := by decide +kernel
theorem dX3_tops_26 : decode cX3_tops 26 = .ok (.goto 4, 3) := by decide +kernel
theorem dX3_tops_29 : decode cX3_tops 29 = .ok (.iconst 0, 1) := by decide +kernel
theorem dX3_tops_30 : decode cX3_tops 30 = .ok (.istore_n 3, 1) := by decide +kernel
theorem dX3_tops_31 : decode cX3_tops 31 = .ok (.iload_n 2, 1) := by decide +kernel
theorem dX3_tops_32 : decode cX3_tops 32 = .ok (.bipush 11, 2) := by decide +kernel
theorem dX3_tops_34 : decode cX3_tops 34 = .ok (.if_icmp .eq 14, 3) := by decide +kernel
theorem dX3_tops_37 : decode cX3_tops 37 = .ok (.aload_n 0, 1) := by decide +kernel
theorem dX3_tops_38 : decode cX3_tops 38 = .ok (.iload_n 2, 1) := by decide +kernel
theorem dX3_tops_39 : decode cX3_tops 39 = .ok (.iaload, 1) := by decide +kernel
theorem dX3_tops_40 : decode cX3_tops 40 = .ok (.aload_n 0, 1) := by decide +kernel
theorem dX3_tops_41 : decode cX3_tops 41 = .ok (.iload_n 2, 1) := by decide +kernel
theorem dX3_tops_42 : decode cX3_tops 42 = .ok (.iconst 1, 1) := by decide +kernel
theorem dX3_tops_43 : decode cX3_tops 43 = .ok (.iadd, 1) := by decide +kernel
theorem dX3_tops_44 : decode cX3_tops 44 = .ok (.iaload, 1) := by decide +kernel
theorem dX3_tops_45 : decode cX3_tops 45 = .ok (.if_icmp .le 7, 3) := by decide +kernel
theorem dX3_tops_48 : decode cX3_tops 48 = .ok (.iconst 1, 1) := by decide +kernel
theorem dX3_tops_49 : decode cX3_tops 49 = .ok (.goto 4, 3) := by decide +kernel
theorem dX3_tops_52 : decode cX3_tops 52 = .ok (.iconst 0, 1) := by decide +kernel
theorem dX3_tops_53 : decode cX3_tops 53 = .ok (.istore 4, 2) := by decide +kernel
theorem dX3_tops_55 : decode cX3_tops 55 = .ok (.iload_n 3, 1) := by decide +kernel
theorem dX3_tops_56 : decode cX3_tops 56 = .ok (.ifCond .eq 14, 3) := by decide +kernel
theorem dX3_tops_59 : decode cX3_tops 59 = .ok (.iload 4, 2) := by decide +kernel
theorem dX3_tops_61 : decode cX3_tops 61 = .ok (.ifCond .eq 9, 3) := by decide +kernel
theorem dX3_tops_64 : decode cX3_tops 64 = .ok (.iload_n 1, 1) := by decide +kernel
theorem dX3_tops_65 : decode cX3_tops 65 = .ok (.iconst 1, 1) := by decide +kernel
theorem dX3_tops_66 : decode cX3_tops 66 = .ok (.iload_n 2, 1) := by decide +kernel
theorem dX3_tops_67 : decode cX3_tops 67 = .ok (.ishl, 1) := by decide +kernel
theorem dX3_tops_68 : decode cX3_tops 68 = .ok (.ior, 1) := by decide +kernel
theorem dX3_tops_69 : decode cX3_tops 69 = .ok (.istore_n 1, 1) := by decide +kernel
theorem dX3_tops_70 : decode cX3_tops 70 = .ok (.iinc 2 1, 3) := by decide +kernel
theorem dX3_tops_73 : decode cX3_tops 73 = .ok (.goto (-69), 3) := by decide +kernel
theorem dX3_tops_76 : decode cX3_tops 76 = .ok (.iload_n 1, 1) := by decide +kernel
theorem dX3_tops_77 : decode cX3_tops 77 = .ok (.ireturn, 1) := by decide +kernel
theorem dX3_fullest_0 : decode cX3_fullest 0 = .ok (.iconst 0, 1) := by decide +kernel
theorem dX3_fullest_1 : decode cX3_fullest 1 = .ok (.istore_n 2, 1) := by decide +kernel
theorem dX3_fullest_2 : decode cX3_fullest 2 = .ok (.iconst (-1), 1) := by decide +kernel
theorem dX3_fullest_3 : decode cX3_fullest 3 = .ok (.istore_n 3, 1) := by decide +kernel
theorem dX3_fullest_4 : decode cX3_fullest 4 = .ok (.iconst 0, 1) := by decide +kernel
theorem dX3_fullest_5 : decode cX3_fullest 5 = .ok (.istore 4, 2) := by decide +kernel
theorem dX3_fullest_7 : decode cX3_fullest 7 = .ok (.iload 4, 2) := by decide +kernel
theorem dX3_fullest_9 : decode cX3_fullest 9 = .ok (.iload_n 1, 1) := by decide +kernel
theorem dX3_fullest_10 : decode cX3_fullest 10 = .ok (.iadd, 1) := by decide +kernel
theorem dX3_fullest_11 : decode cX3_fullest 11 = .ok (.bipush 12, 2) := by decide +kernel
theorem dX3_fullest_13 : decode cX3_fullest 13 = .ok (.if_icmp .gt 33, 3) := by decide +kernel
theorem dX3_fullest_16 : decode cX3_fullest 16 = .ok (.aload_n 0, 1) := by decide +kernel
theorem dX3_fullest_17 : decode cX3_fullest 17 = .ok (.iload 4, 2) := by decide +kernel
theorem dX3_fullest_19 : decode cX3_fullest 19 = .ok (.iload 4, 2) := by decide +kernel
theorem dX3_fullest_21 : decode cX3_fullest 21 = .ok (.iload_n 1, 1) := by decide +kernel
theorem dX3_fullest_22 : decode cX3_fullest 22 = .ok (.iadd, 1) := by decide +kernel
theorem dX3_fullest_23 : decode cX3_fullest 23 = .ok (.invokestatic 31, 3) := by decide +kernel
theorem dX3_fullest_26 : decode cX3_fullest 26 = .ok (.istore 5, 2) := by decide +kernel
theorem dX3_fullest_28 : decode cX3_fullest 28 = .ok (.iload 5, 2) := by decide +kernel
theorem dX3_fullest_30 : decode cX3_fullest 30 = .ok (.iload_n 3, 1) := by decide +kernel
theorem dX3_fullest_31 : decode cX3_fullest 31 = .ok (.if_icmp .le 9, 3) := by decide +kernel
theorem dX3_fullest_34 : decode cX3_fullest 34 = .ok (.iload 5, 2) := by decide +kernel
theorem dX3_fullest_36 : decode cX3_fullest 36 = .ok (.istore_n 3, 1) := by decide +kernel
theorem dX3_fullest_37 : decode cX3_fullest 37 = .ok (.iload 4, 2) := by decide +kernel
theorem dX3_fullest_39 : decode cX3_fullest 39 = .ok (.istore_n 2, 1) := by decide +kernel
theorem dX3_fullest_40 : decode cX3_fullest 40 = .ok (.iinc 4 1, 3) := by decide +kernel
theorem dX3_fullest_43 : decode cX3_fullest 43 = .ok (.goto (-36), 3) := by decide +kernel
theorem dX3_fullest_46 : decode cX3_fullest 46 = .ok (.iload_n 2, 1) := by decide +kernel
theorem dX3_fullest_47 : decode cX3_fullest 47 = .ok (.ireturn, 1) := by decide +kernel
theorem dX3_leastCell_0 : decode cX3_leastCell 0 = .ok (.iconst 0, 1) := by decide +kernel
theorem dX3_leastCell_1 : decode cX3_leastCell 1 = .ok (.istore_n 1, 1) := by decide +kernel
theorem dX3_leastCell_2 : decode cX3_leastCell 2 = .ok (.iconst 1, 1) := by decide +kernel
theorem dX3_leastCell_3 : decode cX3_leastCell 3 = .ok (.istore_n 2, 1) := by decide +kernel
theorem dX3_leastCell_4 : decode cX3_leastCell 4 = .ok (.iload_n 2, 1) := by decide +kernel
theorem dX3_leastCell_5 : decode cX3_leastCell 5 = .ok (.bipush 12, 2) := by decide +kernel
theorem dX3_leastCell_7 : decode cX3_leastCell 7 = .ok (.if_icmp .ge 20, 3) := by decide +kernel
theorem dX3_leastCell_10 : decode cX3_leastCell 10 = .ok (.aload_n 0, 1) := by decide +kernel
theorem dX3_leastCell_11 : decode cX3_leastCell 11 = .ok (.iload_n 2, 1) := by decide +kernel
theorem dX3_leastCell_12 : decode cX3_leastCell 12 = .ok (.iaload, 1) := by decide +kernel
theorem dX3_leastCell_13 : decode cX3_leastCell 13 = .ok (.aload_n 0, 1) := by decide +kernel
theorem dX3_leastCell_14 : decode cX3_leastCell 14 = .ok (.iload_n 1, 1) := by decide +kernel
theorem dX3_leastCell_15 : decode cX3_leastCell 15 = .ok (.iaload, 1) := by decide +kernel
theorem dX3_leastCell_16 : decode cX3_leastCell 16 = .ok (.if_icmp .ge 5, 3) := by decide +kernel
theorem dX3_leastCell_19 : decode cX3_leastCell 19 = .ok (.iload_n 2, 1) := by decide +kernel
theorem dX3_leastCell_20 : decode cX3_leastCell 20 = .ok (.istore_n 1, 1) := by decide +kernel
theorem dX3_leastCell_21 : decode cX3_leastCell 21 = .ok (.iinc 2 1, 3) := by decide +kernel
theorem dX3_leastCell_24 : decode cX3_leastCell 24 = .ok (.goto (-20), 3) := by decide +kernel
theorem dX3_leastCell_27 : decode cX3_leastCell 27 = .ok (.iload_n 1, 1) := by decide +kernel
theorem dX3_leastCell_28 : decode cX3_leastCell 28 = .ok (.ireturn, 1) := by decide +kernel
theorem dX3_mostCell_0 : decode cX3_mostCell 0 = .ok (.iconst 0, 1) := by decide +kernel
theorem dX3_mostCell_1 : decode cX3_mostCell 1 = .ok (.istore_n 1, 1) := by decide +kernel
theorem dX3_mostCell_2 : decode cX3_mostCell 2 = .ok (.iconst 1, 1) := by decide +kernel
theorem dX3_mostCell_3 : decode cX3_mostCell 3 = .ok (.istore_n 2, 1) := by decide +kernel
theorem dX3_mostCell_4 : decode cX3_mostCell 4 = .ok (.iload_n 2, 1) := by decide +kernel
theorem dX3_mostCell_5 : decode cX3_mostCell 5 = .ok (.bipush 12, 2) := by decide +kernel
theorem dX3_mostCell_7 : decode cX3_mostCell 7 = .ok (.if_icmp .ge 20, 3) := by decide +kernel
theorem dX3_mostCell_10 : decode cX3_mostCell 10 = .ok (.aload_n 0, 1) := by decide +kernel
theorem dX3_mostCell_11 : decode cX3_mostCell 11 = .ok (.iload_n 2, 1) := by decide +kernel
theorem dX3_mostCell_12 : decode cX3_mostCell 12 = .ok (.iaload, 1) := by decide +kernel
theorem dX3_mostCell_13 : decode cX3_mostCell 13 = .ok (.aload_n 0, 1) := by decide +kernel
theorem dX3_mostCell_14 : decode cX3_mostCell 14 = .ok (.iload_n 1, 1) := by decide +kernel
theorem dX3_mostCell_15 : decode cX3_mostCell 15 = .ok (.iaload, 1) := by decide +kernel
theorem dX3_mostCell_16 : decode cX3_mostCell 16 = .ok (.if_icmp .le 5, 3) := by decide +kernel
theorem dX3_mostCell_19 : decode cX3_mostCell 19 = .ok (.iload_n 2, 1) := by decide +kernel
theorem dX3_mostCell_20 : decode cX3_mostCell 20 = .ok (.istore_n 1, 1) := by decide +kernel
theorem dX3_mostCell_21 : decode cX3_mostCell 21 = .ok (.iinc 2 1, 3) := by decide +kernel
theorem dX3_mostCell_24 : decode cX3_mostCell 24 = .ok (.goto (-20), 3) := by decide +kernel
theorem dX3_mostCell_27 : decode cX3_mostCell 27 = .ok (.iload_n 1, 1) := by decide +kernel
theorem dX3_mostCell_28 : decode cX3_mostCell 28 = .ok (.ireturn, 1) := by decide +kernel
theorem dX3_rowsAbove_0 : decode cX3_rowsAbove 0 = .ok (.iconst 0, 1) := by decide +kernel
theorem dX3_rowsAbove_1 : decode cX3_rowsAbove 1 = .ok (.istore_n 2, 1) := by decide +kernel
theorem dX3_rowsAbove_2 : decode cX3_rowsAbove 2 = .ok (.iconst 0, 1) := by decide +kernel
theorem dX3_rowsAbove_3 : decode cX3_rowsAbove 3 = .ok (.istore_n 3, 1) := by decide +kernel
theorem dX3_rowsAbove_4 : decode cX3_rowsAbove 4 = .ok (.iload_n 3, 1) := by decide +kernel
theorem dX3_rowsAbove_5 : decode cX3_rowsAbove 5 = .ok (.bipush 12, 2) := by decide +kernel
theorem dX3_rowsAbove_7 : decode cX3_rowsAbove 7 = .ok (.if_icmp .ge 32, 3) := by decide +kernel
theorem dX3_rowsAbove_10 : decode cX3_rowsAbove 10 = .ok (.aload_n 0, 1) := by decide +kernel
theorem dX3_rowsAbove_11 : decode cX3_rowsAbove 11 = .ok (.iload_n 3, 1) := by decide +kernel
theorem dX3_rowsAbove_12 : decode cX3_rowsAbove 12 = .ok (.iaload, 1) := by decide +kernel
theorem dX3_rowsAbove_13 : decode cX3_rowsAbove 13 = .ok (.iload_n 1, 1) := by decide +kernel
theorem dX3_rowsAbove_14 : decode cX3_rowsAbove 14 = .ok (.if_icmp .le 19, 3) := by decide +kernel
theorem dX3_rowsAbove_17 : decode cX3_rowsAbove 17 = .ok (.iload_n 3, 1) := by decide +kernel
theorem dX3_rowsAbove_18 : decode cX3_rowsAbove 18 = .ok (.ifCond .eq 12, 3) := by decide +kernel
theorem dX3_rowsAbove_21 : decode cX3_rowsAbove 21 = .ok (.aload_n 0, 1) := by decide +kernel
theorem dX3_rowsAbove_22 : decode cX3_rowsAbove 22 = .ok (.iload_n 3, 1) := by decide +kernel
theorem dX3_rowsAbove_23 : decode cX3_rowsAbove 23 = .ok (.iconst 1, 1) := by decide +kernel
theorem dX3_rowsAbove_24 : decode cX3_rowsAbove 24 = .ok (.isub, 1) := by decide +kernel
theorem dX3_rowsAbove_25 : decode cX3_rowsAbove 25 = .ok (.iaload, 1) := by decide +kernel
theorem dX3_rowsAbove_26 : decode cX3_rowsAbove 26 = .ok (.iload_n 1, 1) := by decide +kernel
theorem dX3_rowsAbove_27 : decode cX3_rowsAbove 27 = .ok (.if_icmp .gt 6, 3) := by decide +kernel
theorem dX3_rowsAbove_30 : decode cX3_rowsAbove 30 = .ok (.iinc 2 1, 3) := by decide +kernel
theorem dX3_rowsAbove_33 : decode cX3_rowsAbove 33 = .ok (.iinc 3 1, 3) := by decide +kernel
theorem dX3_rowsAbove_36 : decode cX3_rowsAbove 36 = .ok (.goto (-32), 3) := by decide +kernel
theorem dX3_rowsAbove_39 : decode cX3_rowsAbove 39 = .ok (.iload_n 2, 1) := by decide +kernel
theorem dX3_rowsAbove_40 : decode cX3_rowsAbove 40 = .ok (.ireturn, 1) := by decide +kernel
theorem dX3_cellsAbove_0 : decode cX3_cellsAbove 0 = .ok (.iconst 0, 1) := by decide +kernel
theorem dX3_cellsAbove_1 : decode cX3_cellsAbove 1 = .ok (.istore_n 2, 1) := by decide +kernel
theorem dX3_cellsAbove_2 : decode cX3_cellsAbove 2 = .ok (.iconst 0, 1) := by decide +kernel
theorem dX3_cellsAbove_3 : decode cX3_cellsAbove 3 = .ok (.istore_n 3, 1) := by decide +kernel
theorem dX3_cellsAbove_4 : decode cX3_cellsAbove 4 = .ok (.iload_n 3, 1) := by decide +kernel
theorem dX3_cellsAbove_5 : decode cX3_cellsAbove 5 = .ok (.bipush 12, 2) := by decide +kernel
theorem dX3_cellsAbove_7 : decode cX3_cellsAbove 7 = .ok (.if_icmp .ge 19, 3) := by decide +kernel
theorem dX3_cellsAbove_10 : decode cX3_cellsAbove 10 = .ok (.aload_n 0, 1) := by decide +kernel
theorem dX3_cellsAbove_11 : decode cX3_cellsAbove 11 = .ok (.iload_n 3, 1) := by decide +kernel
theorem dX3_cellsAbove_12 : decode cX3_cellsAbove 12 = .ok (.iaload, 1) := by decide +kernel
theorem dX3_cellsAbove_13 : decode cX3_cellsAbove 13 = .ok (.iload_n 1, 1) := by decide +kernel
theorem dX3_cellsAbove_14 : decode cX3_cellsAbove 14 = .ok (.if_icmp .le 6, 3) := by decide +kernel
theorem dX3_cellsAbove_17 : decode cX3_cellsAbove 17 = .ok (.iinc 2 1, 3) := by decide +kernel
theorem dX3_cellsAbove_20 : decode cX3_cellsAbove 20 = .ok (.iinc 3 1, 3) := by decide +kernel
theorem dX3_cellsAbove_23 : decode cX3_cellsAbove 23 = .ok (.goto (-19), 3) := by decide +kernel
theorem dX3_cellsAbove_26 : decode cX3_cellsAbove 26 = .ok (.iload_n 2, 1) := by decide +kernel
theorem dX3_cellsAbove_27 : decode cX3_cellsAbove 27 = .ok (.ireturn, 1) := by decide +kernel
theorem dX3_firstHigher_0 : decode cX3_firstHigher 0 = .ok (.iconst 1, 1) := by decide +kernel
theorem dX3_firstHigher_1 : decode cX3_firstHigher 1 = .ok (.istore_n 3, 1) := by decide +kernel
theorem dX3_firstHigher_2 : decode cX3_firstHigher 2 = .ok (.iload_n 3, 1) := by decide +kernel
theorem dX3_firstHigher_3 : decode cX3_firstHigher 3 = .ok (.bipush 12, 2) := by decide +kernel
theorem dX3_firstHigher_5 : decode cX3_firstHigher 5 = .ok (.if_icmp .ge 49, 3) := by decide +kernel
theorem dX3_firstHigher_8 : decode cX3_firstHigher 8 = .ok (.iload_n 2, 1) := by decide +kernel
theorem dX3_firstHigher_9 : decode cX3_firstHigher 9 = .ok (.ifCond .eq 9, 3) := by decide +kernel
theorem dX3_firstHigher_12 : decode cX3_firstHigher 12 = .ok (.iload_n 1, 1) := by decide +kernel
theorem dX3_firstHigher_13 : decode cX3_firstHigher 13 = .ok (.iload_n 3, 1) := by decide +kernel
theorem dX3_firstHigher_14 : decode cX3_firstHigher 14 = .ok (.iadd, 1) := by decide +kernel
theorem dX3_firstHigher_15 : decode cX3_firstHigher 15 = .ok (.goto 6, 3) := by decide +kernel
theorem dX3_firstHigher_18 : decode cX3_firstHigher 18 = .ok (.iload_n 1, 1) := by decide +kernel
theorem dX3_firstHigher_19 : decode cX3_firstHigher 19 = .ok (.iload_n 3, 1) := by decide +kernel
theorem dX3_firstHigher_20 : decode cX3_firstHigher 20 = .ok (.isub, 1) := by decide +kernel
theorem dX3_firstHigher_21 : decode cX3_firstHigher 21 = .ok (.istore 4, 2) := by decide +kernel
theorem dX3_firstHigher_23 : decode cX3_firstHigher 23 = .ok (.iload 4, 2) := by decide +kernel
theorem dX3_firstHigher_25 : decode cX3_firstHigher 25 = .ok (.ifCond .lt 23, 3) := by decide +kernel
theorem dX3_firstHigher_28 : decode cX3_firstHigher 28 = .ok (.iload 4, 2) := by decide +kernel
theorem dX3_firstHigher_30 : decode cX3_firstHigher 30 = .ok (.bipush 12, 2) := by decide +kernel
theorem dX3_firstHigher_32 : decode cX3_firstHigher 32 = .ok (.if_icmp .ge 16, 3) := by decide +kernel
theorem dX3_firstHigher_35 : decode cX3_firstHigher 35 = .ok (.aload_n 0, 1) := by decide +kernel
theorem dX3_firstHigher_36 : decode cX3_firstHigher 36 = .ok (.iload 4, 2) := by decide +kernel
theorem dX3_firstHigher_38 : decode cX3_firstHigher 38 = .ok (.iaload, 1) := by decide +kernel
theorem dX3_firstHigher_39 : decode cX3_firstHigher 39 = .ok (.aload_n 0, 1) := by decide +kernel
theorem dX3_firstHigher_40 : decode cX3_firstHigher 40 = .ok (.iload_n 1, 1) := by decide +kernel
theorem dX3_firstHigher_41 : decode cX3_firstHigher 41 = .ok (.iaload, 1) := by decide +kernel
theorem dX3_firstHigher_42 : decode cX3_firstHigher 42 = .ok (.if_icmp .le 6, 3) := by decide +kernel
theorem dX3_firstHigher_45 : decode cX3_firstHigher 45 = .ok (.iload 4, 2) := by decide +kernel
theorem dX3_firstHigher_47 : decode cX3_firstHigher 47 = .ok (.ireturn, 1) := by decide +kernel
theorem dX3_firstHigher_48 : decode cX3_firstHigher 48 = .ok (.iinc 3 1, 3) := by decide +kernel
theorem dX3_firstHigher_51 : decode cX3_firstHigher 51 = .ok (.goto (-49), 3) := by decide +kernel
theorem dX3_firstHigher_54 : decode cX3_firstHigher 54 = .ok (.iconst (-1), 1) := by decide +kernel
theorem dX3_firstHigher_55 : decode cX3_firstHigher 55 = .ok (.ireturn, 1) := by decide +kernel
theorem dX3_leastButOthers_0 : decode cX3_leastButOthers 0 = .ok (.iconst 0, 1) := by decide +kernel
theorem dX3_leastButOthers_1 : decode cX3_leastButOthers 1 = .ok (.istore_n 2, 1) := by decide +kernel
theorem dX3_leastButOthers_2 : decode cX3_leastButOthers 2 = .ok (.iload_n 2, 1) := by decide +kernel
theorem dX3_leastButOthers_3 : decode cX3_leastButOthers 3 = .ok (.bipush 12, 2) := by decide +kernel
theorem dX3_leastButOthers_5 : decode cX3_leastButOthers 5 = .ok (.if_icmp .ge 49, 3) := by decide +kernel
theorem dX3_leastButOthers_8 : decode cX3_leastButOthers 8 = .ok (.bipush 12, 2) := by decide +kernel
theorem dX3_leastButOthers_10 : decode cX3_leastButOthers 10 = .ok (.aload_n 0, 1) := by decide +kernel
theorem dX3_leastButOthers_11 : decode cX3_leastButOthers 11 = .ok (.aload_n 0, 1) := by decide +kernel
theorem dX3_leastButOthers_12 : decode cX3_leastButOthers 12 = .ok (.iload_n 2, 1) := by decide +kernel
theorem dX3_leastButOthers_13 : decode cX3_leastButOthers 13 = .ok (.iaload, 1) := by decide +kernel
theorem dX3_leastButOthers_14 : decode cX3_leastButOthers 14 = .ok (.iconst 1, 1) := by decide +kernel
theorem dX3_leastButOthers_15 : decode cX3_leastButOthers 15 = .ok (.isub, 1) := by decide +kernel
theorem dX3_leastButOthers_16 : decode cX3_leastButOthers 16 = .ok (.invokestatic 34, 3) := by decide +kernel
theorem dX3_leastButOthers_19 : decode cX3_leastButOthers 19 = .ok (.isub, 1) := by decide +kernel
theorem dX3_leastButOthers_20 : decode cX3_leastButOthers 20 = .ok (.istore_n 3, 1) := by decide +kernel
theorem dX3_leastButOthers_21 : decode cX3_leastButOthers 21 = .ok (.bipush 12, 2) := by decide +kernel
theorem dX3_leastButOthers_23 : decode cX3_leastButOthers 23 = .ok (.aload_n 0, 1) := by decide +kernel
theorem dX3_leastButOthers_24 : decode cX3_leastButOthers 24 = .ok (.aload_n 0, 1) := by decide +kernel
theorem dX3_leastButOthers_25 : decode cX3_leastButOthers 25 = .ok (.iload_n 2, 1) := by decide +kernel
theorem dX3_leastButOthers_26 : decode cX3_leastButOthers 26 = .ok (.iaload, 1) := by decide +kernel
theorem dX3_leastButOthers_27 : decode cX3_leastButOthers 27 = .ok (.invokestatic 34, 3) := by decide +kernel
theorem dX3_leastButOthers_30 : decode cX3_leastButOthers 30 = .ok (.isub, 1) := by decide +kernel
theorem dX3_leastButOthers_31 : decode cX3_leastButOthers 31 = .ok (.istore 4, 2) := by decide +kernel
theorem dX3_leastButOthers_33 : decode cX3_leastButOthers 33 = .ok (.iload_n 3, 1) := by decide +kernel
theorem dX3_leastButOthers_34 : decode cX3_leastButOthers 34 = .ok (.iload_n 1, 1) := by decide +kernel
theorem dX3_leastButOthers_35 : decode cX3_leastButOthers 35 = .ok (.if_icmp .ge 13, 3) := by decide +kernel
theorem dX3_leastButOthers_38 : decode cX3_leastButOthers 38 = .ok (.iload_n 1, 1) := by decide +kernel
theorem dX3_leastButOthers_39 : decode cX3_leastButOthers 39 = .ok (.iload 4, 2) := by decide +kernel
theorem dX3_leastButOthers_41 : decode cX3_leastButOthers 41 = .ok (.if_icmp .gt 7, 3) := by decide +kernel
theorem dX3_leastButOthers_44 : decode cX3_leastButOthers 44 = .ok (.aload_n 0, 1) := by decide +kernel
theorem dX3_leastButOthers_45 : decode cX3_leastButOthers 45 = .ok (.iload_n 2, 1) := by decide +kernel
theorem dX3_leastButOthers_46 : decode cX3_leastButOthers 46 = .ok (.iaload, 1) := by decide +kernel
theorem dX3_leastButOthers_47 : decode cX3_leastButOthers 47 = .ok (.ireturn, 1) := by decide +kernel
theorem dX3_leastButOthers_48 : decode cX3_leastButOthers 48 = .ok (.iinc 2 1, 3) := by decide +kernel
theorem dX3_leastButOthers_51 : decode cX3_leastButOthers 51 = .ok (.goto (-49), 3) := by decide +kernel
theorem dX3_leastButOthers_54 : decode cX3_leastButOthers 54 = .ok (.iconst (-1), 1) := by decide +kernel
theorem dX3_leastButOthers_55 : decode cX3_leastButOthers 55 = .ok (.ireturn, 1) := by decide +kernel
theorem dX3_way_0 : decode cX3_way 0 = .ok (.iconst 0, 1) := by decide +kernel
theorem dX3_way_1 : decode cX3_way 1 = .ok (.istore_n 2, 1) := by decide +kernel
theorem dX3_way_2 : decode cX3_way 2 = .ok (.iconst 0, 1) := by decide +kernel
theorem dX3_way_3 : decode cX3_way 3 = .ok (.istore_n 3, 1) := by decide +kernel
theorem dX3_way_4 : decode cX3_way 4 = .ok (.iconst 0, 1) := by decide +kernel
theorem dX3_way_5 : decode cX3_way 5 = .ok (.istore 4, 2) := by decide +kernel
theorem dX3_way_7 : decode cX3_way 7 = .ok (.iload 4, 2) := by decide +kernel
theorem dX3_way_9 : decode cX3_way 9 = .ok (.bipush 12, 2) := by decide +kernel
theorem dX3_way_11 : decode cX3_way 11 = .ok (.if_icmp .ge 28, 3) := by decide +kernel
theorem dX3_way_14 : decode cX3_way 14 = .ok (.iload_n 3, 1) := by decide +kernel
theorem dX3_way_15 : decode cX3_way 15 = .ok (.aload_n 0, 1) := by decide +kernel
theorem dX3_way_16 : decode cX3_way 16 = .ok (.iload 4, 2) := by decide +kernel
theorem dX3_way_18 : decode cX3_way 18 = .ok (.iaload, 1) := by decide +kernel
theorem dX3_way_19 : decode cX3_way 19 = .ok (.aload_n 1, 1) := by decide +kernel
theorem dX3_way_20 : decode cX3_way 20 = .ok (.iload 4, 2) := by decide +kernel
theorem dX3_way_22 : decode cX3_way 22 = .ok (.iaload, 1) := by decide +kernel
theorem dX3_way_23 : decode cX3_way 23 = .ok (.isub, 1) := by decide +kernel
theorem dX3_way_24 : decode cX3_way 24 = .ok (.iadd, 1) := by decide +kernel
theorem dX3_way_25 : decode cX3_way 25 = .ok (.istore_n 3, 1) := by decide +kernel
theorem dX3_way_26 : decode cX3_way 26 = .ok (.iload_n 2, 1) := by decide +kernel
theorem dX3_way_27 : decode cX3_way 27 = .ok (.iload_n 3, 1) := by decide +kernel
theorem dX3_way_28 : decode cX3_way 28 = .ok (.invokestatic 38, 3) := by decide +kernel
theorem dX3_way_31 : decode cX3_way 31 = .ok (.iadd, 1) := by decide +kernel
theorem dX3_way_32 : decode cX3_way 32 = .ok (.istore_n 2, 1) := by decide +kernel
theorem dX3_way_33 : decode cX3_way 33 = .ok (.iinc 4 1, 3) := by decide +kernel
theorem dX3_way_36 : decode cX3_way 36 = .ok (.goto (-29), 3) := by decide +kernel
theorem dX3_way_39 : decode cX3_way 39 = .ok (.iload_n 2, 1) := by decide +kernel
theorem dX3_way_40 : decode cX3_way 40 = .ok (.ireturn, 1) := by decide +kernel
theorem dX3_wayToLevel_0 : decode cX3_wayToLevel 0 = .ok (.aload_n 1, 1) := by decide +kernel
theorem dX3_wayToLevel_1 : decode cX3_wayToLevel 1 = .ok (.iconst 0, 1) := by decide +kernel
theorem dX3_wayToLevel_2 : decode cX3_wayToLevel 2 = .ok (.bipush 12, 2) := by decide +kernel
theorem dX3_wayToLevel_4 : decode cX3_wayToLevel 4 = .ok (.invokestatic 31, 3) := by decide +kernel
theorem dX3_wayToLevel_7 : decode cX3_wayToLevel 7 = .ok (.istore_n 2, 1) := by decide +kernel
theorem dX3_wayToLevel_8 : decode cX3_wayToLevel 8 = .ok (.iconst 0, 1) := by decide +kernel
theorem dX3_wayToLevel_9 : decode cX3_wayToLevel 9 = .ok (.istore_n 3, 1) := by decide +kernel
theorem dX3_wayToLevel_10 : decode cX3_wayToLevel 10 = .ok (.iload_n 3, 1) := by decide +kernel
theorem dX3_wayToLevel_11 : decode cX3_wayToLevel 11 = .ok (.bipush 12, 2) := by decide +kernel
theorem dX3_wayToLevel_13 : decode cX3_wayToLevel 13 = .ok (.if_icmp .ge 33, 3) := by decide +kernel
theorem dX3_wayToLevel_16 : decode cX3_wayToLevel 16 = .ok (.aload_n 0, 1) := by decide +kernel
theorem dX3_wayToLevel_17 : decode cX3_wayToLevel 17 = .ok (.getfield 11, 3) := by decide +kernel
theorem dX3_wayToLevel_20 : decode cX3_wayToLevel 20 = .ok (.iload_n 3, 1) := by decide +kernel
theorem dX3_wayToLevel_21 : decode cX3_wayToLevel 21 = .ok (.iload_n 2, 1) := by decide +kernel
theorem dX3_wayToLevel_22 : decode cX3_wayToLevel 22 = .ok (.bipush 12, 2) := by decide +kernel
theorem dX3_wayToLevel_24 : decode cX3_wayToLevel 24 = .ok (.idiv, 1) := by decide +kernel
theorem dX3_wayToLevel_25 : decode cX3_wayToLevel 25 = .ok (.iload_n 3, 1) := by decide +kernel
theorem dX3_wayToLevel_26 : decode cX3_wayToLevel 26 = .ok (.iload_n 2, 1) := by decide +kernel
theorem dX3_wayToLevel_27 : decode cX3_wayToLevel 27 = .ok (.bipush 12, 2) := by decide +kernel
theorem dX3_wayToLevel_29 : decode cX3_wayToLevel 29 = .ok (.irem, 1) := by decide +kernel
theorem dX3_wayToLevel_30 : decode cX3_wayToLevel 30 = .ok (.if_icmp .ge 7, 3) := by decide +kernel
theorem dX3_wayToLevel_33 : decode cX3_wayToLevel 33 = .ok (.iconst 1, 1) := by decide +kernel
theorem dX3_wayToLevel_34 : decode cX3_wayToLevel 34 = .ok (.goto 4, 3) := by decide +kernel
theorem dX3_wayToLevel_37 : decode cX3_wayToLevel 37 = .ok (.iconst 0, 1) := by decide +kernel
theorem dX3_wayToLevel_38 : decode cX3_wayToLevel 38 = .ok (.iadd, 1) := by decide +kernel
theorem dX3_wayToLevel_39 : decode cX3_wayToLevel 39 = .ok (.iastore, 1) := by decide +kernel
theorem dX3_wayToLevel_40 : decode cX3_wayToLevel 40 = .ok (.iinc 3 1, 3) := by decide +kernel
theorem dX3_wayToLevel_43 : decode cX3_wayToLevel 43 = .ok (.goto (-33), 3) := by decide +kernel
theorem dX3_wayToLevel_46 : decode cX3_wayToLevel 46 = .ok (.aload_n 1, 1) := by decide +kernel
theorem dX3_wayToLevel_47 : decode cX3_wayToLevel 47 = .ok (.aload_n 0, 1) := by decide +kernel
theorem dX3_wayToLevel_48 : decode cX3_wayToLevel 48 = .ok (.getfield 11, 3) := by decide +kernel
theorem dX3_wayToLevel_51 : decode cX3_wayToLevel 51 = .ok (.invokestatic 42, 3) := by decide +kernel
theorem dX3_wayToLevel_54 : decode cX3_wayToLevel 54 = .ok (.ireturn, 1) := by decide +kernel
theorem dX3_parts_0 : decode cX3_parts 0 = .ok (.aload_n 0, 1) := by decide +kernel
theorem dX3_parts_1 : decode cX3_parts 1 = .ok (.aload_n 1, 1) := by decide +kernel
theorem dX3_parts_2 : decode cX3_parts 2 = .ok (.iload_n 2, 1) := by decide +kernel
theorem dX3_parts_3 : decode cX3_parts 3 = .ok (.invokevirtual 46, 3) := by decide +kernel
theorem dX3_parts_6 : decode cX3_parts 6 = .ok (.aload_n 0, 1) := by decide +kernel
theorem dX3_parts_7 : decode cX3_parts 7 = .ok (.getfield 15, 3) := by decide +kernel
theorem dX3_parts_10 : decode cX3_parts 10 = .ok (.iload_n 2, 1) := by decide +kernel
theorem dX3_parts_11 : decode cX3_parts 11 = .ok (.bipush 13, 2) := by decide +kernel
theorem dX3_parts_13 : decode cX3_parts 13 = .ok (.imul, 1) := by decide +kernel
theorem dX3_parts_14 : decode cX3_parts 14 = .ok (.iaload, 1) := by decide +kernel
theorem dX3_parts_15 : decode cX3_parts 15 = .ok (.istore 4, 2) := by decide +kernel
theorem dX3_parts_17 : decode cX3_parts 17 = .ok (.iload_n 3, 1) := by decide +kernel
theorem dX3_parts_18 : decode cX3_parts 18 = .ok (.iconst (-1), 1) := by decide +kernel
theorem dX3_parts_19 : decode cX3_parts 19 = .ok (.if_icmp .ne 6, 3) := by decide +kernel
theorem dX3_parts_22 : decode cX3_parts 22 = .ok (.iload 4, 2) := by decide +kernel
theorem dX3_parts_24 : decode cX3_parts 24 = .ok (.ireturn, 1) := by decide +kernel
theorem dX3_parts_25 : decode cX3_parts 25 = .ok (.iconst 0, 1) := by decide +kernel
theorem dX3_parts_26 : decode cX3_parts 26 = .ok (.istore 5, 2) := by decide +kernel
theorem dX3_parts_28 : decode cX3_parts 28 = .ok (.iconst 0, 1) := by decide +kernel
theorem dX3_parts_29 : decode cX3_parts 29 = .ok (.istore 6, 2) := by decide +kernel
theorem dX3_parts_31 : decode cX3_parts 31 = .ok (.iload 6, 2) := by decide +kernel
theorem dX3_parts_33 : decode cX3_parts 33 = .ok (.iload_n 3, 1) := by decide +kernel
theorem dX3_parts_34 : decode cX3_parts 34 = .ok (.if_icmp .ge 26, 3) := by decide +kernel
theorem dX3_parts_37 : decode cX3_parts 37 = .ok (.aload_n 0, 1) := by decide +kernel
theorem dX3_parts_38 : decode cX3_parts 38 = .ok (.aload_n 1, 1) := by decide +kernel
theorem dX3_parts_39 : decode cX3_parts 39 = .ok (.iload 5, 2) := by decide +kernel
theorem dX3_parts_41 : decode cX3_parts 41 = .ok (.iload_n 2, 1) := by decide +kernel
theorem dX3_parts_42 : decode cX3_parts 42 = .ok (.iload 6, 2) := by decide +kernel
theorem dX3_parts_44 : decode cX3_parts 44 = .ok (.isub, 1) := by decide +kernel
theorem dX3_parts_45 : decode cX3_parts 45 = .ok (.iconst 1, 1) := by decide +kernel
theorem dX3_parts_46 : decode cX3_parts 46 = .ok (.isub, 1) := by decide +kernel
theorem dX3_parts_47 : decode cX3_parts 47 = .ok (.iload 4, 2) := by decide +kernel
theorem dX3_parts_49 : decode cX3_parts 49 = .ok (.invokevirtual 50, 3) := by decide +kernel
theorem dX3_parts_52 : decode cX3_parts 52 = .ok (.istore 5, 2) := by decide +kernel
theorem dX3_parts_54 : decode cX3_parts 54 = .ok (.iinc 6 1, 3) := by decide +kernel
theorem dX3_parts_57 : decode cX3_parts 57 = .ok (.goto (-26), 3) := by decide +kernel
theorem dX3_parts_60 : decode cX3_parts 60 = .ok (.iload 5, 2) := by decide +kernel
theorem dX3_parts_62 : decode cX3_parts 62 = .ok (.ireturn, 1) := by decide +kernel
theorem dX3_fillParts_0 : decode cX3_fillParts 0 = .ok (.iconst 0, 1) := by decide +kernel
theorem dX3_fillParts_1 : decode cX3_fillParts 1 = .ok (.istore_n 3, 1) := by decide +kernel
theorem dX3_fillParts_2 : decode cX3_fillParts 2 = .ok (.iload_n 3, 1) := by decide +kernel
theorem dX3_fillParts_3 : decode cX3_fillParts 3 = .ok (.bipush 12, 2) := by decide +kernel
theorem dX3_fillParts_5 : decode cX3_fillParts 5 = .ok (.if_icmp .ge 25, 3) := by decide +kernel
theorem dX3_fillParts_8 : decode cX3_fillParts 8 = .ok (.aload_n 0, 1) := by decide +kernel
theorem dX3_fillParts_9 : decode cX3_fillParts 9 = .ok (.getfield 15, 3) := by decide +kernel
theorem dX3_fillParts_12 : decode cX3_fillParts 12 = .ok (.bipush 13, 2) := by decide +kernel
theorem dX3_fillParts_14 : decode cX3_fillParts 14 = .ok (.iload_n 3, 1) := by decide +kernel
theorem dX3_fillParts_15 : decode cX3_fillParts 15 = .ok (.iadd, 1) := by decide +kernel
theorem dX3_fillParts_16 : decode cX3_fillParts 16 = .ok (.aload_n 1, 1) := by decide +kernel
theorem dX3_fillParts_17 : decode cX3_fillParts 17 = .ok (.iload_n 3, 1) := by decide +kernel
theorem dX3_fillParts_18 : decode cX3_fillParts 18 = .ok (.bipush 12, 2) := by decide +kernel
theorem dX3_fillParts_20 : decode cX3_fillParts 20 = .ok (.invokestatic 31, 3) := by decide +kernel
theorem dX3_fillParts_23 : decode cX3_fillParts 23 = .ok (.iastore, 1) := by decide +kernel
theorem dX3_fillParts_24 : decode cX3_fillParts 24 = .ok (.iinc 3 1, 3) := by decide +kernel
theorem dX3_fillParts_27 : decode cX3_fillParts 27 = .ok (.goto (-25), 3) := by decide +kernel
theorem dX3_fillParts_30 : decode cX3_fillParts 30 = .ok (.iconst 2, 1) := by decide +kernel
theorem dX3_fillParts_31 : decode cX3_fillParts 31 = .ok (.istore_n 3, 1) := by decide +kernel
theorem dX3_fillParts_32 : decode cX3_fillParts 32 = .ok (.iload_n 3, 1) := by decide +kernel
theorem dX3_fillParts_33 : decode cX3_fillParts 33 = .ok (.iload_n 2, 1) := by decide +kernel
theorem dX3_fillParts_34 : decode cX3_fillParts 34 = .ok (.if_icmp .gt 113, 3) := by decide +kernel
theorem dX3_fillParts_37 : decode cX3_fillParts 37 = .ok (.iconst 0, 1) := by decide +kernel
theorem dX3_fillParts_38 : decode cX3_fillParts 38 = .ok (.istore 4, 2) := by decide +kernel
theorem dX3_fillParts_40 : decode cX3_fillParts 40 = .ok (.iload 4, 2) := by decide +kernel
theorem dX3_fillParts_42 : decode cX3_fillParts 42 = .ok (.iload_n 3, 1) := by decide +kernel
theorem dX3_fillParts_43 : decode cX3_fillParts 43 = .ok (.iadd, 1) := by decide +kernel
theorem dX3_fillParts_44 : decode cX3_fillParts 44 = .ok (.bipush 12, 2) := by decide +kernel
theorem dX3_fillParts_46 : decode cX3_fillParts 46 = .ok (.if_icmp .gt 95, 3) := by decide +kernel
theorem dX3_fillParts_49 : decode cX3_fillParts 49 = .ok (.aload_n 0, 1) := by decide +kernel
theorem dX3_fillParts_50 : decode cX3_fillParts 50 = .ok (.getfield 15, 3) := by decide +kernel
theorem dX3_fillParts_53 : decode cX3_fillParts 53 = .ok (.bipush 13, 2) := by decide +kernel
theorem dX3_fillParts_55 : decode cX3_fillParts 55 = .ok (.iaload, 1) := by decide +kernel
theorem dX3_fillParts_56 : decode cX3_fillParts 56 = .ok (.istore 5, 2) := by decide +kernel
theorem dX3_fillParts_58 : decode cX3_fillParts 58 = .ok (.iconst 0, 1) := by decide +kernel
theorem dX3_fillParts_59 : decode cX3_fillParts 59 = .ok (.istore 6, 2) := by decide +kernel
theorem dX3_fillParts_61 : decode cX3_fillParts 61 = .ok (.iload 4, 2) := by decide +kernel
theorem dX3_fillParts_63 : decode cX3_fillParts 63 = .ok (.iconst 1, 1) := by decide +kernel
theorem dX3_fillParts_64 : decode cX3_fillParts 64 = .ok (.iadd, 1) := by decide +kernel
theorem dX3_fillParts_65 : decode cX3_fillParts 65 = .ok (.istore 7, 2) := by decide +kernel
theorem dX3_fillParts_67 : decode cX3_fillParts 67 = .ok (.iload 7, 2) := by decide +kernel
theorem dX3_fillParts_69 : decode cX3_fillParts 69 = .ok (.iload_n 3, 1) := by decide +kernel
theorem dX3_fillParts_70 : decode cX3_fillParts 70 = .ok (.iadd, 1) := by decide +kernel
theorem dX3_fillParts_71 : decode cX3_fillParts 71 = .ok (.iconst 1, 1) := by decide +kernel
theorem dX3_fillParts_72 : decode cX3_fillParts 72 = .ok (.isub, 1) := by decide +kernel
theorem dX3_fillParts_73 : decode cX3_fillParts 73 = .ok (.bipush 12, 2) := by decide +kernel
theorem dX3_fillParts_75 : decode cX3_fillParts 75 = .ok (.if_icmp .gt 46, 3) := by decide +kernel
theorem dX3_fillParts_78 : decode cX3_fillParts 78 = .ok (.iload 6, 2) := by decide +kernel
theorem dX3_fillParts_80 : decode cX3_fillParts 80 = .ok (.aload_n 1, 1) := by decide +kernel
theorem dX3_fillParts_81 : decode cX3_fillParts 81 = .ok (.iload 7, 2) := by decide +kernel
theorem dX3_fillParts_83 : decode cX3_fillParts 83 = .ok (.iconst 1, 1) := by decide +kernel
theorem dX3_fillParts_84 : decode cX3_fillParts 84 = .ok (.isub, 1) := by decide +kernel
theorem dX3_fillParts_85 : decode cX3_fillParts 85 = .ok (.iaload, 1) := by decide +kernel
theorem dX3_fillParts_86 : decode cX3_fillParts 86 = .ok (.iadd, 1) := by decide +kernel
theorem dX3_fillParts_87 : decode cX3_fillParts 87 = .ok (.istore 6, 2) := by decide +kernel
theorem dX3_fillParts_89 : decode cX3_fillParts 89 = .ok (.iload 5, 2) := by decide +kernel
theorem dX3_fillParts_91 : decode cX3_fillParts 91 = .ok (.iload 6, 2) := by decide +kernel
theorem dX3_fillParts_93 : decode cX3_fillParts 93 = .ok (.aload_n 0, 1) := by decide +kernel
theorem dX3_fillParts_94 : decode cX3_fillParts 94 = .ok (.getfield 15, 3) := by decide +kernel
theorem dX3_fillParts_97 : decode cX3_fillParts 97 = .ok (.iload_n 3, 1) := by decide +kernel
theorem dX3_fillParts_98 : decode cX3_fillParts 98 = .ok (.iconst 1, 1) := by decide +kernel
theorem dX3_fillParts_99 : decode cX3_fillParts 99 = .ok (.isub, 1) := by decide +kernel
theorem dX3_fillParts_100 : decode cX3_fillParts 100 = .ok (.bipush 13, 2) := by decide +kernel
theorem dX3_fillParts_102 : decode cX3_fillParts 102 = .ok (.imul, 1) := by decide +kernel
theorem dX3_fillParts_103 : decode cX3_fillParts 103 = .ok (.iload 7, 2) := by decide +kernel
theorem dX3_fillParts_105 : decode cX3_fillParts 105 = .ok (.iadd, 1) := by decide +kernel
theorem dX3_fillParts_106 : decode cX3_fillParts 106 = .ok (.iaload, 1) := by decide +kernel
theorem dX3_fillParts_107 : decode cX3_fillParts 107 = .ok (.invokestatic 18, 3) := by decide +kernel
theorem dX3_fillParts_110 : decode cX3_fillParts 110 = .ok (.invokestatic 24, 3) := by decide +kernel
theorem dX3_fillParts_113 : decode cX3_fillParts 113 = .ok (.istore 5, 2) := by decide +kernel
theorem dX3_fillParts_115 : decode cX3_fillParts 115 = .ok (.iinc 7 1, 3) := by decide +kernel
theorem dX3_fillParts_118 : decode cX3_fillParts 118 = .ok (.goto (-51), 3) := by decide +kernel
theorem dX3_fillParts_121 : decode cX3_fillParts 121 = .ok (.aload_n 0, 1) := by decide +kernel
theorem dX3_fillParts_122 : decode cX3_fillParts 122 = .ok (.getfield 15, 3) := by decide +kernel
theorem dX3_fillParts_125 : decode cX3_fillParts 125 = .ok (.iload_n 3, 1) := by decide +kernel
theorem dX3_fillParts_126 : decode cX3_fillParts 126 = .ok (.bipush 13, 2) := by decide +kernel
theorem dX3_fillParts_128 : decode cX3_fillParts 128 = .ok (.imul, 1) := by decide +kernel
theorem dX3_fillParts_129 : decode cX3_fillParts 129 = .ok (.iload 4, 2) := by decide +kernel
theorem dX3_fillParts_131 : decode cX3_fillParts 131 = .ok (.iadd, 1) := by decide +kernel
theorem dX3_fillParts_132 : decode cX3_fillParts 132 = .ok (.iload 5, 2) := by decide +kernel
theorem dX3_fillParts_134 : decode cX3_fillParts 134 = .ok (.iastore, 1) := by decide +kernel
theorem dX3_fillParts_135 : decode cX3_fillParts 135 = .ok (.iinc 4 1, 3) := by decide +kernel
theorem dX3_fillParts_138 : decode cX3_fillParts 138 = .ok (.goto (-98), 3) := by decide +kernel
theorem dX3_fillParts_141 : decode cX3_fillParts 141 = .ok (.iinc 3 1, 3) := by decide +kernel
theorem dX3_fillParts_144 : decode cX3_fillParts 144 = .ok (.goto (-112), 3) := by decide +kernel
theorem dX3_fillParts_147 : decode cX3_fillParts 147 = .ok (.return_, 1) := by decide +kernel
theorem dX3_nextPart_0 : decode cX3_nextPart 0 = .ok (.iconst 0, 1) := by decide +kernel
theorem dX3_nextPart_1 : decode cX3_nextPart 1 = .ok (.istore 5, 2) := by decide +kernel
theorem dX3_nextPart_3 : decode cX3_nextPart 3 = .ok (.iload_n 2, 1) := by decide +kernel
theorem dX3_nextPart_4 : decode cX3_nextPart 4 = .ok (.iconst 1, 1) := by decide +kernel
theorem dX3_nextPart_5 : decode cX3_nextPart 5 = .ok (.iadd, 1) := by decide +kernel
theorem dX3_nextPart_6 : decode cX3_nextPart 6 = .ok (.istore 6, 2) := by decide +kernel
theorem dX3_nextPart_8 : decode cX3_nextPart 8 = .ok (.iload 6, 2) := by decide +kernel
theorem dX3_nextPart_10 : decode cX3_nextPart 10 = .ok (.iload_n 3, 1) := by decide +kernel
theorem dX3_nextPart_11 : decode cX3_nextPart 11 = .ok (.iadd, 1) := by decide +kernel
theorem dX3_nextPart_12 : decode cX3_nextPart 12 = .ok (.bipush 12, 2) := by decide +kernel
theorem dX3_nextPart_14 : decode cX3_nextPart 14 = .ok (.if_icmp .gt 47, 3) := by decide +kernel
theorem dX3_nextPart_17 : decode cX3_nextPart 17 = .ok (.iload 5, 2) := by decide +kernel
theorem dX3_nextPart_19 : decode cX3_nextPart 19 = .ok (.aload_n 1, 1) := by decide +kernel
theorem dX3_nextPart_20 : decode cX3_nextPart 20 = .ok (.iload 6, 2) := by decide +kernel
theorem dX3_nextPart_22 : decode cX3_nextPart 22 = .ok (.iconst 1, 1) := by decide +kernel
theorem dX3_nextPart_23 : decode cX3_nextPart 23 = .ok (.isub, 1) := by decide +kernel
theorem dX3_nextPart_24 : decode cX3_nextPart 24 = .ok (.iaload, 1) := by decide +kernel
theorem dX3_nextPart_25 : decode cX3_nextPart 25 = .ok (.iadd, 1) := by decide +kernel
theorem dX3_nextPart_26 : decode cX3_nextPart 26 = .ok (.istore 5, 2) := by decide +kernel
theorem dX3_nextPart_28 : decode cX3_nextPart 28 = .ok (.iload 5, 2) := by decide +kernel
theorem dX3_nextPart_30 : decode cX3_nextPart 30 = .ok (.iload 4, 2) := by decide +kernel
theorem dX3_nextPart_32 : decode cX3_nextPart 32 = .ok (.if_icmp .gt 23, 3) := by decide +kernel
theorem dX3_nextPart_35 : decode cX3_nextPart 35 = .ok (.aload_n 0, 1) := by decide +kernel
theorem dX3_nextPart_36 : decode cX3_nextPart 36 = .ok (.getfield 15, 3) := by decide +kernel
theorem dX3_nextPart_39 : decode cX3_nextPart 39 = .ok (.iload_n 3, 1) := by decide +kernel
theorem dX3_nextPart_40 : decode cX3_nextPart 40 = .ok (.bipush 13, 2) := by decide +kernel
theorem dX3_nextPart_42 : decode cX3_nextPart 42 = .ok (.imul, 1) := by decide +kernel
theorem dX3_nextPart_43 : decode cX3_nextPart 43 = .ok (.iload 6, 2) := by decide +kernel
theorem dX3_nextPart_45 : decode cX3_nextPart 45 = .ok (.iadd, 1) := by decide +kernel
theorem dX3_nextPart_46 : decode cX3_nextPart 46 = .ok (.iaload, 1) := by decide +kernel
theorem dX3_nextPart_47 : decode cX3_nextPart 47 = .ok (.iload 4, 2) := by decide +kernel
theorem dX3_nextPart_49 : decode cX3_nextPart 49 = .ok (.if_icmp .gt 6, 3) := by decide +kernel
theorem dX3_nextPart_52 : decode cX3_nextPart 52 = .ok (.iload 6, 2) := by decide +kernel
theorem dX3_nextPart_54 : decode cX3_nextPart 54 = .ok (.ireturn, 1) := by decide +kernel
theorem dX3_nextPart_55 : decode cX3_nextPart 55 = .ok (.iinc 6 1, 3) := by decide +kernel
theorem dX3_nextPart_58 : decode cX3_nextPart 58 = .ok (.goto (-50), 3) := by decide +kernel
theorem dX3_nextPart_61 : decode cX3_nextPart 61 = .ok (.iload_n 2, 1) := by decide +kernel
theorem dX3_nextPart_62 : decode cX3_nextPart 62 = .ok (.ireturn, 1) := by decide +kernel
theorem dX3_lead_0 : decode cX3_lead 0 = .ok (.iload_n 2, 1) := by decide +kernel
theorem dX3_lead_1 : decode cX3_lead 1 = .ok (.istore 4, 2) := by decide +kernel
theorem dX3_lead_3 : decode cX3_lead 3 = .ok (.iload 4, 2) := by decide +kernel
theorem dX3_lead_5 : decode cX3_lead 5 = .ok (.iload_n 3, 1) := by decide +kernel
theorem dX3_lead_6 : decode cX3_lead 6 = .ok (.if_icmp .gt 20, 3) := by decide +kernel
theorem dX3_lead_9 : decode cX3_lead 9 = .ok (.aload_n 0, 1) := by decide +kernel
theorem dX3_lead_10 : decode cX3_lead 10 = .ok (.getfield 11, 3) := by decide +kernel
theorem dX3_lead_13 : decode cX3_lead 13 = .ok (.iload 4, 2) := by decide +kernel
theorem dX3_lead_15 : decode cX3_lead 15 = .ok (.aload_n 1, 1) := by decide +kernel
theorem dX3_lead_16 : decode cX3_lead 16 = .ok (.iload 4, 2) := by decide +kernel
theorem dX3_lead_18 : decode cX3_lead 18 = .ok (.iaload, 1) := by decide +kernel
theorem dX3_lead_19 : decode cX3_lead 19 = .ok (.iastore, 1) := by decide +kernel
theorem dX3_lead_20 : decode cX3_lead 20 = .ok (.iinc 4 1, 3) := by decide +kernel
theorem dX3_lead_23 : decode cX3_lead 23 = .ok (.goto (-20), 3) := by decide +kernel
theorem dX3_lead_26 : decode cX3_lead 26 = .ok (.iconst 1, 1) := by decide +kernel
theorem dX3_lead_27 : decode cX3_lead 27 = .ok (.istore 4, 2) := by decide +kernel
theorem dX3_lead_29 : decode cX3_lead 29 = .ok (.iload 4, 2) := by decide +kernel
theorem dX3_lead_31 : decode cX3_lead 31 = .ok (.iload_n 3, 1) := by decide +kernel
theorem dX3_lead_32 : decode cX3_lead 32 = .ok (.iload_n 2, 1) := by decide +kernel
theorem dX3_lead_33 : decode cX3_lead 33 = .ok (.isub, 1) := by decide +kernel
theorem dX3_lead_34 : decode cX3_lead 34 = .ok (.if_icmp .gt 66, 3) := by decide +kernel
theorem dX3_lead_37 : decode cX3_lead 37 = .ok (.iload_n 2, 1) := by decide +kernel
theorem dX3_lead_38 : decode cX3_lead 38 = .ok (.istore 5, 2) := by decide +kernel
theorem dX3_lead_40 : decode cX3_lead 40 = .ok (.iload 5, 2) := by decide +kernel
theorem dX3_lead_42 : decode cX3_lead 42 = .ok (.iload 4, 2) := by decide +kernel
theorem dX3_lead_44 : decode cX3_lead 44 = .ok (.iadd, 1) := by decide +kernel
theorem dX3_lead_45 : decode cX3_lead 45 = .ok (.iload_n 3, 1) := by decide +kernel
theorem dX3_lead_46 : decode cX3_lead 46 = .ok (.if_icmp .gt 48, 3) := by decide +kernel
theorem dX3_lead_49 : decode cX3_lead 49 = .ok (.aload_n 0, 1) := by decide +kernel
theorem dX3_lead_50 : decode cX3_lead 50 = .ok (.getfield 11, 3) := by decide +kernel
theorem dX3_lead_53 : decode cX3_lead 53 = .ok (.iload 5, 2) := by decide +kernel
theorem dX3_lead_55 : decode cX3_lead 55 = .ok (.aload_n 1, 1) := by decide +kernel
theorem dX3_lead_56 : decode cX3_lead 56 = .ok (.iload 5, 2) := by decide +kernel
theorem dX3_lead_58 : decode cX3_lead 58 = .ok (.iaload, 1) := by decide +kernel
theorem dX3_lead_59 : decode cX3_lead 59 = .ok (.aload_n 0, 1) := by decide +kernel
theorem dX3_lead_60 : decode cX3_lead 60 = .ok (.getfield 11, 3) := by decide +kernel
theorem dX3_lead_63 : decode cX3_lead 63 = .ok (.iload 5, 2) := by decide +kernel
theorem dX3_lead_65 : decode cX3_lead 65 = .ok (.iconst 1, 1) := by decide +kernel
theorem dX3_lead_66 : decode cX3_lead 66 = .ok (.iadd, 1) := by decide +kernel
theorem dX3_lead_67 : decode cX3_lead 67 = .ok (.iaload, 1) := by decide +kernel
theorem dX3_lead_68 : decode cX3_lead 68 = .ok (.isub, 1) := by decide +kernel
theorem dX3_lead_69 : decode cX3_lead 69 = .ok (.aload_n 1, 1) := by decide +kernel
theorem dX3_lead_70 : decode cX3_lead 70 = .ok (.iload 5, 2) := by decide +kernel
theorem dX3_lead_72 : decode cX3_lead 72 = .ok (.iload 4, 2) := by decide +kernel
theorem dX3_lead_74 : decode cX3_lead 74 = .ok (.iadd, 1) := by decide +kernel
theorem dX3_lead_75 : decode cX3_lead 75 = .ok (.iaload, 1) := by decide +kernel
theorem dX3_lead_76 : decode cX3_lead 76 = .ok (.aload_n 0, 1) := by decide +kernel
theorem dX3_lead_77 : decode cX3_lead 77 = .ok (.getfield 11, 3) := by decide +kernel
theorem dX3_lead_80 : decode cX3_lead 80 = .ok (.iload 5, 2) := by decide +kernel
theorem dX3_lead_82 : decode cX3_lead 82 = .ok (.iaload, 1) := by decide +kernel
theorem dX3_lead_83 : decode cX3_lead 83 = .ok (.isub, 1) := by decide +kernel
theorem dX3_lead_84 : decode cX3_lead 84 = .ok (.invokestatic 18, 3) := by decide +kernel
theorem dX3_lead_87 : decode cX3_lead 87 = .ok (.iastore, 1) := by decide +kernel
theorem dX3_lead_88 : decode cX3_lead 88 = .ok (.iinc 5 1, 3) := by decide +kernel
theorem dX3_lead_91 : decode cX3_lead 91 = .ok (.goto (-51), 3) := by decide +kernel
theorem dX3_lead_94 : decode cX3_lead 94 = .ok (.iinc 4 1, 3) := by decide +kernel
theorem dX3_lead_97 : decode cX3_lead 97 = .ok (.goto (-68), 3) := by decide +kernel
theorem dX3_lead_100 : decode cX3_lead 100 = .ok (.aload_n 0, 1) := by decide +kernel
theorem dX3_lead_101 : decode cX3_lead 101 = .ok (.getfield 11, 3) := by decide +kernel
theorem dX3_lead_104 : decode cX3_lead 104 = .ok (.iload_n 2, 1) := by decide +kernel
theorem dX3_lead_105 : decode cX3_lead 105 = .ok (.iaload, 1) := by decide +kernel
theorem dX3_lead_106 : decode cX3_lead 106 = .ok (.ireturn, 1) := by decide +kernel
theorem dX3_firstTaken_0 : decode cX3_firstTaken 0 = .ok (.iload_n 2, 1) := by decide +kernel
theorem dX3_firstTaken_1 : decode cX3_firstTaken 1 = .ok (.iload_n 3, 1) := by decide +kernel
theorem dX3_firstTaken_2 : decode cX3_firstTaken 2 = .ok (.if_icmp .ne 5, 3) := by decide +kernel
theorem dX3_firstTaken_5 : decode cX3_firstTaken 5 = .ok (.iload_n 2, 1) := by decide +kernel
theorem dX3_firstTaken_6 : decode cX3_firstTaken 6 = .ok (.ireturn, 1) := by decide +kernel
theorem dX3_firstTaken_7 : decode cX3_firstTaken 7 = .ok (.aload_n 1, 1) := by decide +kernel
theorem dX3_firstTaken_8 : decode cX3_firstTaken 8 = .ok (.iload_n 2, 1) := by decide +kernel
theorem dX3_firstTaken_9 : decode cX3_firstTaken 9 = .ok (.iaload, 1) := by decide +kernel
theorem dX3_firstTaken_10 : decode cX3_firstTaken 10 = .ok (.aload_n 0, 1) := by decide +kernel
theorem dX3_firstTaken_11 : decode cX3_firstTaken 11 = .ok (.aload_n 1, 1) := by decide +kernel
theorem dX3_firstTaken_12 : decode cX3_firstTaken 12 = .ok (.iload_n 2, 1) := by decide +kernel
theorem dX3_firstTaken_13 : decode cX3_firstTaken 13 = .ok (.iconst 1, 1) := by decide +kernel
theorem dX3_firstTaken_14 : decode cX3_firstTaken 14 = .ok (.iadd, 1) := by decide +kernel
theorem dX3_firstTaken_15 : decode cX3_firstTaken 15 = .ok (.iload_n 3, 1) := by decide +kernel
theorem dX3_firstTaken_16 : decode cX3_firstTaken 16 = .ok (.invokevirtual 54, 3) := by decide +kernel
theorem dX3_firstTaken_19 : decode cX3_firstTaken 19 = .ok (.isub, 1) := by decide +kernel
theorem dX3_firstTaken_20 : decode cX3_firstTaken 20 = .ok (.istore 4, 2) := by decide +kernel
theorem dX3_firstTaken_22 : decode cX3_firstTaken 22 = .ok (.aload_n 1, 1) := by decide +kernel
theorem dX3_firstTaken_23 : decode cX3_firstTaken 23 = .ok (.iload_n 3, 1) := by decide +kernel
theorem dX3_firstTaken_24 : decode cX3_firstTaken 24 = .ok (.iaload, 1) := by decide +kernel
theorem dX3_firstTaken_25 : decode cX3_firstTaken 25 = .ok (.aload_n 0, 1) := by decide +kernel
theorem dX3_firstTaken_26 : decode cX3_firstTaken 26 = .ok (.aload_n 1, 1) := by decide +kernel
theorem dX3_firstTaken_27 : decode cX3_firstTaken 27 = .ok (.iload_n 2, 1) := by decide +kernel
theorem dX3_firstTaken_28 : decode cX3_firstTaken 28 = .ok (.iload_n 3, 1) := by decide +kernel
theorem dX3_firstTaken_29 : decode cX3_firstTaken 29 = .ok (.iconst 1, 1) := by decide +kernel
theorem dX3_firstTaken_30 : decode cX3_firstTaken 30 = .ok (.isub, 1) := by decide +kernel
theorem dX3_firstTaken_31 : decode cX3_firstTaken 31 = .ok (.invokevirtual 54, 3) := by decide +kernel
theorem dX3_firstTaken_34 : decode cX3_firstTaken 34 = .ok (.isub, 1) := by decide +kernel
theorem dX3_firstTaken_35 : decode cX3_firstTaken 35 = .ok (.istore 5, 2) := by decide +kernel
theorem dX3_firstTaken_37 : decode cX3_firstTaken 37 = .ok (.iload 4, 2) := by decide +kernel
theorem dX3_firstTaken_39 : decode cX3_firstTaken 39 = .ok (.iload 5, 2) := by decide +kernel
theorem dX3_firstTaken_41 : decode cX3_firstTaken 41 = .ok (.if_icmp .lt 7, 3) := by decide +kernel
theorem dX3_firstTaken_44 : decode cX3_firstTaken 44 = .ok (.iload_n 2, 1) := by decide +kernel
theorem dX3_firstTaken_45 : decode cX3_firstTaken 45 = .ok (.goto 4, 3) := by decide +kernel
theorem dX3_firstTaken_48 : decode cX3_firstTaken 48 = .ok (.iload_n 3, 1) := by decide +kernel
theorem dX3_firstTaken_49 : decode cX3_firstTaken 49 = .ok (.ireturn, 1) := by decide +kernel
theorem dX3_covers_0 : decode cX3_covers 0 = .ok (.iload 4, 2) := by decide +kernel
theorem dX3_covers_2 : decode cX3_covers 2 = .ok (.ifCond .eq 9, 3) := by decide +kernel
theorem dX3_covers_5 : decode cX3_covers 5 = .ok (.iload_n 2, 1) := by decide +kernel
theorem dX3_covers_6 : decode cX3_covers 6 = .ok (.iconst 2, 1) := by decide +kernel
theorem dX3_covers_7 : decode cX3_covers 7 = .ok (.iadd, 1) := by decide +kernel
theorem dX3_covers_8 : decode cX3_covers 8 = .ok (.goto 4, 3) := by decide +kernel
theorem dX3_covers_11 : decode cX3_covers 11 = .ok (.iconst 1, 1) := by decide +kernel
theorem dX3_covers_12 : decode cX3_covers 12 = .ok (.istore 5, 2) := by decide +kernel
theorem dX3_covers_14 : decode cX3_covers 14 = .ok (.iload 4, 2) := by decide +kernel
theorem dX3_covers_16 : decode cX3_covers 16 = .ok (.ifCond .eq 9, 3) := by decide +kernel
theorem dX3_covers_19 : decode cX3_covers 19 = .ok (.iload_n 3, 1) := by decide +kernel
theorem dX3_covers_20 : decode cX3_covers 20 = .ok (.iconst 2, 1) := by decide +kernel
theorem dX3_covers_21 : decode cX3_covers 21 = .ok (.iadd, 1) := by decide +kernel
theorem dX3_covers_22 : decode cX3_covers 22 = .ok (.goto 4, 3) := by decide +kernel
theorem dX3_covers_25 : decode cX3_covers 25 = .ok (.iconst 1, 1) := by decide +kernel
theorem dX3_covers_26 : decode cX3_covers 26 = .ok (.istore 6, 2) := by decide +kernel
theorem dX3_covers_28 : decode cX3_covers 28 = .ok (.aload_n 0, 1) := by decide +kernel
theorem dX3_covers_29 : decode cX3_covers 29 = .ok (.getfield 11, 3) := by decide +kernel
theorem dX3_covers_32 : decode cX3_covers 32 = .ok (.bipush 12, 2) := by decide +kernel
theorem dX3_covers_34 : decode cX3_covers 34 = .ok (.iconst 0, 1) := by decide +kernel
theorem dX3_covers_35 : decode cX3_covers 35 = .ok (.iastore, 1) := by decide +kernel
theorem dX3_covers_36 : decode cX3_covers 36 = .ok (.bipush 11, 2) := by decide +kernel
theorem dX3_covers_38 : decode cX3_covers 38 = .ok (.istore 7, 2) := by decide +kernel
theorem dX3_covers_40 : decode cX3_covers 40 = .ok (.iload 7, 2) := by decide +kernel
theorem dX3_covers_42 : decode cX3_covers 42 = .ok (.ifCond .lt 89, 3) := by decide +kernel
theorem dX3_covers_45 : decode cX3_covers 45 = .ok (.iload_n 1, 1) := by decide +kernel
theorem dX3_covers_46 : decode cX3_covers 46 = .ok (.iload 7, 2) := by decide +kernel
theorem dX3_covers_48 : decode cX3_covers 48 = .ok (.ishr, 1) := by decide +kernel
theorem dX3_covers_49 : decode cX3_covers 49 = .ok (.iconst 1, 1) := by decide +kernel
theorem dX3_covers_50 : decode cX3_covers 50 = .ok (.iand, 1) := by decide +kernel
theorem dX3_covers_51 : decode cX3_covers 51 = .ok (.ifCond .ne 22, 3) := by decide +kernel
theorem dX3_covers_54 : decode cX3_covers 54 = .ok (.aload_n 0, 1) := by decide +kernel
theorem dX3_covers_55 : decode cX3_covers 55 = .ok (.getfield 11, 3) := by decide +kernel
theorem dX3_covers_58 : decode cX3_covers 58 = .ok (.iload 7, 2) := by decide +kernel
theorem dX3_covers_60 : decode cX3_covers 60 = .ok (.aload_n 0, 1) := by decide +kernel
theorem dX3_covers_61 : decode cX3_covers 61 = .ok (.getfield 11, 3) := by decide +kernel
theorem dX3_covers_64 : decode cX3_covers 64 = .ok (.iload 7, 2) := by decide +kernel
theorem dX3_covers_66 : decode cX3_covers 66 = .ok (.iconst 1, 1) := by decide +kernel
theorem dX3_covers_67 : decode cX3_covers 67 = .ok (.iadd, 1) := by decide +kernel
theorem dX3_covers_68 : decode cX3_covers 68 = .ok (.iaload, 1) := by decide +kernel
theorem dX3_covers_69 : decode cX3_covers 69 = .ok (.iastore, 1) := by decide +kernel
theorem dX3_covers_70 : decode cX3_covers 70 = .ok (.goto 55, 3) := by decide +kernel
theorem dX3_covers_73 : decode cX3_covers 73 = .ok (.iload 5, 2) := by decide +kernel
theorem dX3_covers_75 : decode cX3_covers 75 = .ok (.aload_n 0, 1) := by decide +kernel
theorem dX3_covers_76 : decode cX3_covers 76 = .ok (.getfield 11, 3) := by decide +kernel
theorem dX3_covers_79 : decode cX3_covers 79 = .ok (.bipush 12, 2) := by decide +kernel
theorem dX3_covers_81 : decode cX3_covers 81 = .ok (.iload 7, 2) := by decide +kernel
theorem dX3_covers_83 : decode cX3_covers 83 = .ok (.iload_n 2, 1) := by decide +kernel
theorem dX3_covers_84 : decode cX3_covers 84 = .ok (.iadd, 1) := by decide +kernel
theorem dX3_covers_85 : decode cX3_covers 85 = .ok (.invokestatic 24, 3) := by decide +kernel
theorem dX3_covers_88 : decode cX3_covers 88 = .ok (.iaload, 1) := by decide +kernel
theorem dX3_covers_89 : decode cX3_covers 89 = .ok (.iadd, 1) := by decide +kernel
theorem dX3_covers_90 : decode cX3_covers 90 = .ok (.istore 8, 2) := by decide +kernel
theorem dX3_covers_92 : decode cX3_covers 92 = .ok (.iload 6, 2) := by decide +kernel
theorem dX3_covers_94 : decode cX3_covers 94 = .ok (.aload_n 0, 1) := by decide +kernel
theorem dX3_covers_95 : decode cX3_covers 95 = .ok (.getfield 11, 3) := by decide +kernel
theorem dX3_covers_98 : decode cX3_covers 98 = .ok (.bipush 12, 2) := by decide +kernel
theorem dX3_covers_100 : decode cX3_covers 100 = .ok (.iload 7, 2) := by decide +kernel
theorem dX3_covers_102 : decode cX3_covers 102 = .ok (.iload_n 3, 1) := by decide +kernel
theorem dX3_covers_103 : decode cX3_covers 103 = .ok (.iadd, 1) := by decide +kernel
theorem dX3_covers_104 : decode cX3_covers 104 = .ok (.invokestatic 24, 3) := by decide +kernel
theorem dX3_covers_107 : decode cX3_covers 107 = .ok (.iaload, 1) := by decide +kernel
theorem dX3_covers_108 : decode cX3_covers 108 = .ok (.iadd, 1) := by decide +kernel
theorem dX3_covers_109 : decode cX3_covers 109 = .ok (.istore 9, 2) := by decide +kernel
theorem dX3_covers_111 : decode cX3_covers 111 = .ok (.aload_n 0, 1) := by decide +kernel
theorem dX3_covers_112 : decode cX3_covers 112 = .ok (.getfield 11, 3) := by decide +kernel
theorem dX3_covers_115 : decode cX3_covers 115 = .ok (.iload 7, 2) := by decide +kernel
theorem dX3_covers_117 : decode cX3_covers 117 = .ok (.iload 8, 2) := by decide +kernel
theorem dX3_covers_119 : decode cX3_covers 119 = .ok (.iload 9, 2) := by decide +kernel
theorem dX3_covers_121 : decode cX3_covers 121 = .ok (.invokestatic 24, 3) := by decide +kernel
theorem dX3_covers_124 : decode cX3_covers 124 = .ok (.iastore, 1) := by decide +kernel
theorem dX3_covers_125 : decode cX3_covers 125 = .ok (.iinc 7 (-1), 3) := by decide +kernel
theorem dX3_covers_128 : decode cX3_covers 128 = .ok (.goto (-88), 3) := by decide +kernel
theorem dX3_covers_131 : decode cX3_covers 131 = .ok (.aload_n 0, 1) := by decide +kernel
theorem dX3_covers_132 : decode cX3_covers 132 = .ok (.getfield 11, 3) := by decide +kernel
theorem dX3_covers_135 : decode cX3_covers 135 = .ok (.iconst 0, 1) := by decide +kernel
theorem dX3_covers_136 : decode cX3_covers 136 = .ok (.iaload, 1) := by decide +kernel
theorem dX3_covers_137 : decode cX3_covers 137 = .ok (.ireturn, 1) := by decide +kernel
theorem dX3_commonPart_0 : decode cX3_commonPart 0 = .ok (.iload_n 0, 1) := by decide +kernel
theorem dX3_commonPart_1 : decode cX3_commonPart 1 = .ok (.iload_n 1, 1) := by decide +kernel
theorem dX3_commonPart_2 : decode cX3_commonPart 2 = .ok (.invokestatic 18, 3) := by decide +kernel
theorem dX3_commonPart_5 : decode cX3_commonPart 5 = .ok (.istore_n 2, 1) := by decide +kernel
theorem dX3_commonPart_6 : decode cX3_commonPart 6 = .ok (.iload_n 2, 1) := by decide +kernel
theorem dX3_commonPart_7 : decode cX3_commonPart 7 = .ok (.iconst 1, 1) := by decide +kernel
theorem dX3_commonPart_8 : decode cX3_commonPart 8 = .ok (.if_icmp .le 23, 3) := by decide +kernel
theorem dX3_commonPart_11 : decode cX3_commonPart 11 = .ok (.iload_n 0, 1) := by decide +kernel
theorem dX3_commonPart_12 : decode cX3_commonPart 12 = .ok (.iload_n 2, 1) := by decide +kernel
theorem dX3_commonPart_13 : decode cX3_commonPart 13 = .ok (.irem, 1) := by decide +kernel
theorem dX3_commonPart_14 : decode cX3_commonPart 14 = .ok (.ifCond .ne 11, 3) := by decide +kernel
theorem dX3_commonPart_17 : decode cX3_commonPart 17 = .ok (.iload_n 1, 1) := by decide +kernel
theorem dX3_commonPart_18 : decode cX3_commonPart 18 = .ok (.iload_n 2, 1) := by decide +kernel
theorem dX3_commonPart_19 : decode cX3_commonPart 19 = .ok (.irem, 1) := by decide +kernel
theorem dX3_commonPart_20 : decode cX3_commonPart 20 = .ok (.ifCond .ne 5, 3) := by decide +kernel
theorem dX3_commonPart_23 : decode cX3_commonPart 23 = .ok (.iload_n 2, 1) := by decide +kernel
theorem dX3_commonPart_24 : decode cX3_commonPart 24 = .ok (.ireturn, 1) := by decide +kernel
theorem dX3_commonPart_25 : decode cX3_commonPart 25 = .ok (.iinc 2 (-1), 3) := by decide +kernel
theorem dX3_commonPart_28 : decode cX3_commonPart 28 = .ok (.goto (-22), 3) := by decide +kernel
theorem dX3_commonPart_31 : decode cX3_commonPart 31 = .ok (.iconst 1, 1) := by decide +kernel
theorem dX3_commonPart_32 : decode cX3_commonPart 32 = .ok (.ireturn, 1) := by decide +kernel
theorem dX4_init_0 : decode cX4_init 0 = .ok (.aload_n 0, 1) := by decide +kernel
theorem dX4_init_1 : decode cX4_init 1 = .ok (.invokespecial 3, 3) := by decide +kernel
theorem dX4_init_4 : decode cX4_init 4 = .ok (.aload_n 0, 1) := by decide +kernel
theorem dX4_init_5 : decode cX4_init 5 = .ok (.bipush 12, 2) := by decide +kernel
theorem dX4_init_7 : decode cX4_init 7 = .ok (.newarray .int, 2) := by decide +kernel
theorem dX4_init_9 : decode cX4_init 9 = .ok (.putfield 9, 3) := by decide +kernel
theorem dX4_init_12 : decode cX4_init 12 = .ok (.aload_n 0, 1) := by decide +kernel
theorem dX4_init_13 : decode cX4_init 13 = .ok (.bipush 6, 2) := by decide +kernel
theorem dX4_init_15 : decode cX4_init 15 = .ok (.newarray .int, 2) := by decide +kernel
theorem dX4_init_17 : decode cX4_init 17 = .ok (.putfield 15, 3) := by decide +kernel
theorem dX4_init_20 : decode cX4_init 20 = .ok (.aload_n 0, 1) := by decide +kernel
theorem dX4_init_21 : decode cX4_init 21 = .ok (.bipush 30, 2) := by decide +kernel
theorem dX4_init_23 : decode cX4_init 23 = .ok (.newarray .long, 2) := by decide +kernel
theorem dX4_init_25 : decode cX4_init 25 = .ok (.putfield 18, 3) := by decide +kernel
theorem dX4_init_28 : decode cX4_init 28 = .ok (.aload_n 0, 1) := by decide +kernel
theorem dX4_init_29 : decode cX4_init 29 = .ok (.sipush 281, 3) := by decide +kernel
theorem dX4_init_32 : decode cX4_init 32 = .ok (.putfield 22, 3) := by decide +kernel
theorem dX4_init_35 : decode cX4_init 35 = .ok (.aload_n 0, 1) := by decide +kernel
theorem dX4_init_36 : decode cX4_init 36 = .ok (.getfield 9, 3) := by decide +kernel
theorem dX4_init_39 : decode cX4_init 39 = .ok (.bipush 20, 2) := by decide +kernel
theorem dX4_init_41 : decode cX4_init 41 = .ok (.invokestatic 26, 3) := by decide +kernel
theorem dX4_init_44 : decode cX4_init 44 = .ok (.aload_n 0, 1) := by decide +kernel
theorem dX4_init_45 : decode cX4_init 45 = .ok (.getfield 15, 3) := by decide +kernel
theorem dX4_init_48 : decode cX4_init 48 = .ok (.bipush (-2), 2) := by decide +kernel
theorem dX4_init_50 : decode cX4_init 50 = .ok (.invokestatic 26, 3) := by decide +kernel
theorem dX4_init_53 : decode cX4_init 53 = .ok (.return_, 1) := by decide +kernel
theorem dX4_becomes_0 : decode cX4_becomes 0 = .ok (.aload_n 0, 1) := by decide +kernel
theorem dX4_becomes_1 : decode cX4_becomes 1 = .ok (.aload_n 1, 1) := by decide +kernel
theorem dX4_becomes_2 : decode cX4_becomes 2 = .ok (.invokevirtual 32, 3) := by decide +kernel
theorem dX4_becomes_5 : decode cX4_becomes 5 = .ok (.aload_n 1, 1) := by decide +kernel
theorem dX4_becomes_6 : decode cX4_becomes 6 = .ok (.getfield 15, 3) := by decide +kernel
theorem dX4_becomes_9 : decode cX4_becomes 9 = .ok (.iconst 0, 1) := by decide +kernel
theorem dX4_becomes_10 : decode cX4_becomes 10 = .ok (.aload_n 0, 1) := by decide +kernel
theorem dX4_becomes_11 : decode cX4_becomes 11 = .ok (.getfield 15, 3) := by decide +kernel
theorem dX4_becomes_14 : decode cX4_becomes 14 = .ok (.iconst 0, 1) := by decide +kernel
theorem dX4_becomes_15 : decode cX4_becomes 15 = .ok (.bipush 6, 2) := by decide +kernel
theorem dX4_becomes_17 : decode cX4_becomes 17 = .ok (.invokestatic 36, 3) := by decide +kernel
theorem dX4_becomes_20 : decode cX4_becomes 20 = .ok (.aload_n 1, 1) := by decide +kernel
theorem dX4_becomes_21 : decode cX4_becomes 21 = .ok (.getfield 18, 3) := by decide +kernel
theorem dX4_becomes_24 : decode cX4_becomes 24 = .ok (.iconst 0, 1) := by decide +kernel
theorem dX4_becomes_25 : decode cX4_becomes 25 = .ok (.aload_n 0, 1) := by decide +kernel
theorem dX4_becomes_26 : decode cX4_becomes 26 = .ok (.getfield 18, 3) := by decide +kernel
theorem dX4_becomes_29 : decode cX4_becomes 29 = .ok (.iconst 0, 1) := by decide +kernel
theorem dX4_becomes_30 : decode cX4_becomes 30 = .ok (.bipush 30, 2) := by decide +kernel
theorem dX4_becomes_32 : decode cX4_becomes 32 = .ok (.invokestatic 36, 3) := by decide +kernel
theorem dX4_becomes_35 : decode cX4_becomes 35 = .ok (.aload_n 0, 1) := by decide +kernel
theorem dX4_becomes_36 : decode cX4_becomes 36 = .ok (.aload_n 1, 1) := by decide +kernel
theorem dX4_becomes_37 : decode cX4_becomes 37 = .ok (.getfield 42, 3) := by decide +kernel
theorem dX4_becomes_40 : decode cX4_becomes 40 = .ok (.putfield 42, 3) := by decide +kernel
theorem dX4_becomes_43 : decode cX4_becomes 43 = .ok (.aload_n 0, 1) := by decide +kernel
theorem dX4_becomes_44 : decode cX4_becomes 44 = .ok (.aload_n 1, 1) := by decide +kernel
theorem dX4_becomes_45 : decode cX4_becomes 45 = .ok (.getfield 45, 3) := by decide +kernel
theorem dX4_becomes_48 : decode cX4_becomes 48 = .ok (.putfield 45, 3) := by decide +kernel
theorem dX4_becomes_51 : decode cX4_becomes 51 = .ok (.aload_n 0, 1) := by decide +kernel
theorem dX4_becomes_52 : decode cX4_becomes 52 = .ok (.aload_n 1, 1) := by decide +kernel
theorem dX4_becomes_53 : decode cX4_becomes 53 = .ok (.getfield 22, 3) := by decide +kernel
theorem dX4_becomes_56 : decode cX4_becomes 56 = .ok (.putfield 22, 3) := by decide +kernel
theorem dX4_becomes_59 : decode cX4_becomes 59 = .ok (.return_, 1) := by decide +kernel
theorem dX4_laysAs_0 : decode cX4_laysAs 0 = .ok (.aload_n 1, 1) := by decide +kernel
theorem dX4_laysAs_1 : decode cX4_laysAs 1 = .ok (.getfield 9, 3) := by decide +kernel
theorem dX4_laysAs_4 : decode cX4_laysAs 4 = .ok (.iconst 0, 1) := by decide +kernel
theorem dX4_laysAs_5 : decode cX4_laysAs 5 = .ok (.aload_n 0, 1) := by decide +kernel
theorem dX4_laysAs_6 : decode cX4_laysAs 6 = .ok (.getfield 9, 3) := by decide +kernel
theorem dX4_laysAs_9 : decode cX4_laysAs 9 = .ok (.iconst 0, 1) := by decide +kernel
theorem dX4_laysAs_10 : decode cX4_laysAs 10 = .ok (.bipush 12, 2) := by decide +kernel
theorem dX4_laysAs_12 : decode cX4_laysAs 12 = .ok (.invokestatic 36, 3) := by decide +kernel
theorem dX4_laysAs_15 : decode cX4_laysAs 15 = .ok (.aload_n 0, 1) := by decide +kernel
theorem dX4_laysAs_16 : decode cX4_laysAs 16 = .ok (.aload_n 1, 1) := by decide +kernel
theorem dX4_laysAs_17 : decode cX4_laysAs 17 = .ok (.getfield 48, 3) := by decide +kernel
theorem dX4_laysAs_20 : decode cX4_laysAs 20 = .ok (.putfield 48, 3) := by decide +kernel
theorem dX4_laysAs_23 : decode cX4_laysAs 23 = .ok (.aload_n 0, 1) := by decide +kernel
theorem dX4_laysAs_24 : decode cX4_laysAs 24 = .ok (.aload_n 1, 1) := by decide +kernel
theorem dX4_laysAs_25 : decode cX4_laysAs 25 = .ok (.getfield 51, 3) := by decide +kernel
theorem dX4_laysAs_28 : decode cX4_laysAs 28 = .ok (.putfield 51, 3) := by decide +kernel
theorem dX4_laysAs_31 : decode cX4_laysAs 31 = .ok (.aload_n 0, 1) := by decide +kernel
theorem dX4_laysAs_32 : decode cX4_laysAs 32 = .ok (.aload_n 1, 1) := by decide +kernel
theorem dX4_laysAs_33 : decode cX4_laysAs 33 = .ok (.getfield 54, 3) := by decide +kernel
theorem dX4_laysAs_36 : decode cX4_laysAs 36 = .ok (.putfield 54, 3) := by decide +kernel
theorem dX4_laysAs_39 : decode cX4_laysAs 39 = .ok (.return_, 1) := by decide +kernel
theorem dX4_laysLike_0 : decode cX4_laysLike 0 = .ok (.aload_n 0, 1) := by decide +kernel
theorem dX4_laysLike_1 : decode cX4_laysLike 1 = .ok (.getfield 48, 3) := by decide +kernel
theorem dX4_laysLike_4 : decode cX4_laysLike 4 = .ok (.aload_n 1, 1) := by decide +kernel
theorem dX4_laysLike_5 : decode cX4_laysLike 5 = .ok (.getfield 48, 3) := by decide +kernel
theorem dX4_laysLike_8 : decode cX4_laysLike 8 = .ok (.if_icmp .ne 15, 3) := by decide +kernel
theorem dX4_laysLike_11 : decode cX4_laysLike 11 = .ok (.aload_n 0, 1) := by decide +kernel
theorem dX4_laysLike_12 : decode cX4_laysLike 12 = .ok (.aload_n 1, 1) := by decide +kernel
theorem dX4_laysLike_13 : decode cX4_laysLike 13 = .ok (.invokevirtual 57, 3) := by decide +kernel
theorem dX4_laysLike_16 : decode cX4_laysLike 16 = .ok (.ifCond .ne 7, 3) := by decide +kernel
theorem dX4_laysLike_19 : decode cX4_laysLike 19 = .ok (.iconst 1, 1) := by decide +kernel
theorem dX4_laysLike_20 : decode cX4_laysLike 20 = .ok (.goto 4, 3) := by decide +kernel
theorem dX4_laysLike_23 : decode cX4_laysLike 23 = .ok (.iconst 0, 1) := by decide +kernel
theorem dX4_laysLike_24 : decode cX4_laysLike 24 = .ok (.ireturn, 1) := by decide +kernel
theorem dX4_unlike_0 : decode cX4_unlike 0 = .ok (.aload_n 0, 1) := by decide +kernel
theorem dX4_unlike_1 : decode cX4_unlike 1 = .ok (.getfield 51, 3) := by decide +kernel
theorem dX4_unlike_4 : decode cX4_unlike 4 = .ok (.aload_n 1, 1) := by decide +kernel
theorem dX4_unlike_5 : decode cX4_unlike 5 = .ok (.getfield 51, 3) := by decide +kernel
theorem dX4_unlike_8 : decode cX4_unlike 8 = .ok (.if_icmp .ne 7, 3) := by decide +kernel
theorem dX4_unlike_11 : decode cX4_unlike 11 = .ok (.iconst 0, 1) := by decide +kernel
theorem dX4_unlike_12 : decode cX4_unlike 12 = .ok (.goto 6, 3) := by decide +kernel
theorem dX4_unlike_15 : decode cX4_unlike 15 = .ok (.sipush 4096, 3) := by decide +kernel
theorem dX4_unlike_18 : decode cX4_unlike 18 = .ok (.istore_n 2, 1) := by decide +kernel
theorem dX4_unlike_19 : decode cX4_unlike 19 = .ok (.iconst 0, 1) := by decide +kernel
theorem dX4_unlike_20 : decode cX4_unlike 20 = .ok (.istore_n 3, 1) := by decide +kernel
theorem dX4_unlike_21 : decode cX4_unlike 21 = .ok (.iload_n 3, 1) := by decide +kernel
theorem dX4_unlike_22 : decode cX4_unlike 22 = .ok (.bipush 12, 2) := by decide +kernel
theorem dX4_unlike_24 : decode cX4_unlike 24 = .ok (.if_icmp .ge 30, 3) := by decide +kernel
theorem dX4_unlike_27 : decode cX4_unlike 27 = .ok (.aload_n 0, 1) := by decide +kernel
theorem dX4_unlike_28 : decode cX4_unlike 28 = .ok (.getfield 9, 3) := by decide +kernel
theorem dX4_unlike_31 : decode cX4_unlike 31 = .ok (.iload_n 3, 1) := by decide +kernel
theorem dX4_unlike_32 : decode cX4_unlike 32 = .ok (.iaload, 1) := by decide +kernel
theorem dX4_unlike_33 : decode cX4_unlike 33 = .ok (.aload_n 1, 1) := by decide +kernel
theorem dX4_unlike_34 : decode cX4_unlike 34 = .ok (.getfield 9, 3) := by decide +kernel
theorem dX4_unlike_37 : decode cX4_unlike 37 = .ok (.iload_n 3, 1) := by decide +kernel
theorem dX4_unlike_38 : decode cX4_unlike 38 = .ok (.iaload, 1) := by decide +kernel
theorem dX4_unlike_39 : decode cX4_unlike 39 = .ok (.if_icmp .eq 9, 3) := by decide +kernel
theorem dX4_unlike_42 : decode cX4_unlike 42 = .ok (.iload_n 2, 1) := by decide +kernel
theorem dX4_unlike_43 : decode cX4_unlike 43 = .ok (.iconst 1, 1) := by decide +kernel
theorem dX4_unlike_44 : decode cX4_unlike 44 = .ok (.iload_n 3, 1) := by decide +kernel
theorem dX4_unlike_45 : decode cX4_unlike 45 = .ok (.ishl, 1) := by decide +kernel
theorem dX4_unlike_46 : decode cX4_unlike 46 = .ok (.ior, 1) := by decide +kernel
theorem dX4_unlike_47 : decode cX4_unlike 47 = .ok (.istore_n 2, 1) := by decide +kernel
theorem dX4_unlike_48 : decode cX4_unlike 48 = .ok (.iinc 3 1, 3) := by decide +kernel
theorem dX4_unlike_51 : decode cX4_unlike 51 = .ok (.goto (-30), 3) := by decide +kernel
theorem dX4_unlike_54 : decode cX4_unlike 54 = .ok (.iload_n 2, 1) := by decide +kernel
theorem dX4_unlike_55 : decode cX4_unlike 55 = .ok (.ireturn, 1) := by decide +kernel
theorem dX4_drawn_0 : decode cX4_drawn 0 = .ok (.aload_n 0, 1) := by decide +kernel
theorem dX4_drawn_1 : decode cX4_drawn 1 = .ok (.getfield 22, 3) := by decide +kernel
theorem dX4_drawn_4 : decode cX4_drawn 4 = .ok (.istore_n 1, 1) := by decide +kernel
theorem dX4_drawn_5 : decode cX4_drawn 5 = .ok (.aload_n 0, 1) := by decide +kernel
theorem dX4_drawn_6 : decode cX4_drawn 6 = .ok (.iload_n 1, 1) := by decide +kernel
theorem dX4_drawn_7 : decode cX4_drawn 7 = .ok (.sipush 541, 3) := by decide +kernel
theorem dX4_drawn_10 : decode cX4_drawn 10 = .ok (.imul, 1) := by decide +kernel
theorem dX4_drawn_11 : decode cX4_drawn 11 = .ok (.sipush 419, 3) := by decide +kernel
theorem dX4_drawn_14 : decode cX4_drawn 14 = .ok (.iadd, 1) := by decide +kernel
theorem dX4_drawn_15 : decode cX4_drawn 15 = .ok (.sipush 30713, 3) := by decide +kernel
theorem dX4_drawn_18 : decode cX4_drawn 18 = .ok (.irem, 1) := by decide +kernel
theorem dX4_drawn_19 : decode cX4_drawn 19 = .ok (.putfield 22, 3) := by decide +kernel
theorem dX4_drawn_22 : decode cX4_drawn 22 = .ok (.iload_n 1, 1) := by decide +kernel
theorem dX4_drawn_23 : decode cX4_drawn 23 = .ok (.ireturn, 1) := by decide +kernel
theorem dX4_cutOff_0 : decode cX4_cutOff 0 = .ok (.aload_n 0, 1) := by decide +kernel
theorem dX4_cutOff_1 : decode cX4_cutOff 1 = .ok (.dup, 1) := by decide +kernel
theorem dX4_cutOff_2 : decode cX4_cutOff 2 = .ok (.getfield 45, 3) := by decide +kernel
theorem dX4_cutOff_5 : decode cX4_cutOff 5 = .ok (.aload_n 0, 1) := by decide +kernel
theorem dX4_cutOff_6 : decode cX4_cutOff 6 = .ok (.getfield 51, 3) := by decide +kernel
theorem dX4_cutOff_9 : decode cX4_cutOff 9 = .ok (.iadd, 1) := by decide +kernel
theorem dX4_cutOff_10 : decode cX4_cutOff 10 = .ok (.putfield 45, 3) := by decide +kernel
theorem dX4_cutOff_13 : decode cX4_cutOff 13 = .ok (.aload_n 0, 1) := by decide +kernel
theorem dX4_cutOff_14 : decode cX4_cutOff 14 = .ok (.iconst 0, 1) := by decide +kernel
theorem dX4_cutOff_15 : decode cX4_cutOff 15 = .ok (.putfield 51, 3) := by decide +kernel
theorem dX4_cutOff_18 : decode cX4_cutOff 18 = .ok (.return_, 1) := by decide +kernel
theorem dX4_canMend_0 : decode cX4_canMend 0 = .ok (.aload_n 0, 1) := by decide +kernel
theorem dX4_canMend_1 : decode cX4_canMend 1 = .ok (.getfield 48, 3) := by decide +kernel
theorem dX4_canMend_4 : decode cX4_canMend 4 = .ok (.iload_n 1, 1) := by decide +kernel
theorem dX4_canMend_5 : decode cX4_canMend 5 = .ok (.ishr, 1) := by decide +kernel
theorem dX4_canMend_6 : decode cX4_canMend 6 = .ok (.iconst 1, 1) := by decide +kernel
theorem dX4_canMend_7 : decode cX4_canMend 7 = .ok (.iand, 1) := by decide +kernel
theorem dX4_canMend_8 : decode cX4_canMend 8 = .ok (.iconst 1, 1) := by decide +kernel
theorem dX4_canMend_9 : decode cX4_canMend 9 = .ok (.if_icmp .ne 15, 3) := by decide +kernel
theorem dX4_canMend_12 : decode cX4_canMend 12 = .ok (.aload_n 0, 1) := by decide +kernel
theorem dX4_canMend_13 : decode cX4_canMend 13 = .ok (.getfield 45, 3) := by decide +kernel
theorem dX4_canMend_16 : decode cX4_canMend 16 = .ok (.iload_n 2, 1) := by decide +kernel
theorem dX4_canMend_17 : decode cX4_canMend 17 = .ok (.if_icmp .lt 7, 3) := by decide +kernel
theorem dX4_canMend_20 : decode cX4_canMend 20 = .ok (.iconst 1, 1) := by decide +kernel
theorem dX4_canMend_21 : decode cX4_canMend 21 = .ok (.goto 4, 3) := by decide +kernel
theorem dX4_canMend_24 : decode cX4_canMend 24 = .ok (.iconst 0, 1) := by decide +kernel
theorem dX4_canMend_25 : decode cX4_canMend 25 = .ok (.ireturn, 1) := by decide +kernel
theorem dX4_mend_0 : decode cX4_mend 0 = .ok (.aload_n 0, 1) := by decide +kernel
theorem dX4_mend_1 : decode cX4_mend 1 = .ok (.dup, 1) := by decide +kernel
theorem dX4_mend_2 : decode cX4_mend 2 = .ok (.getfield 45, 3) := by decide +kernel
theorem dX4_mend_5 : decode cX4_mend 5 = .ok (.iload_n 2, 1) := by decide +kernel
theorem dX4_mend_6 : decode cX4_mend 6 = .ok (.isub, 1) := by decide +kernel
theorem dX4_mend_7 : decode cX4_mend 7 = .ok (.putfield 45, 3) := by decide +kernel
theorem dX4_mend_10 : decode cX4_mend 10 = .ok (.aload_n 0, 1) := by decide +kernel
theorem dX4_mend_11 : decode cX4_mend 11 = .ok (.getfield 9, 3) := by decide +kernel
theorem dX4_mend_14 : decode cX4_mend 14 = .ok (.iload_n 1, 1) := by decide +kernel
theorem dX4_mend_15 : decode cX4_mend 15 = .ok (.dup2, 1) := by decide +kernel
theorem dX4_mend_16 : decode cX4_mend 16 = .ok (.iaload, 1) := by decide +kernel
theorem dX4_mend_17 : decode cX4_mend 17 = .ok (.iload_n 2, 1) := by decide +kernel
theorem dX4_mend_18 : decode cX4_mend 18 = .ok (.iadd, 1) := by decide +kernel
theorem dX4_mend_19 : decode cX4_mend 19 = .ok (.iastore, 1) := by decide +kernel
theorem dX4_mend_20 : decode cX4_mend 20 = .ok (.aload_n 0, 1) := by decide +kernel
theorem dX4_mend_21 : decode cX4_mend 21 = .ok (.dup, 1) := by decide +kernel
theorem dX4_mend_22 : decode cX4_mend 22 = .ok (.getfield 48, 3) := by decide +kernel
theorem dX4_mend_25 : decode cX4_mend 25 = .ok (.iconst 1, 1) := by decide +kernel
theorem dX4_mend_26 : decode cX4_mend 26 = .ok (.iload_n 1, 1) := by decide +kernel
theorem dX4_mend_27 : decode cX4_mend 27 = .ok (.ishl, 1) := by decide +kernel
theorem dX4_mend_28 : decode cX4_mend 28 = .ok (.iconst (-1), 1) := by decide +kernel
theorem dX4_mend_29 : decode cX4_mend 29 = .ok (.ixor, 1) := by decide +kernel
theorem dX4_mend_30 : decode cX4_mend 30 = .ok (.iand, 1) := by decide +kernel
theorem dX4_mend_31 : decode cX4_mend 31 = .ok (.putfield 48, 3) := by decide +kernel
theorem dX4_mend_34 : decode cX4_mend 34 = .ok (.return_, 1) := by decide +kernel
theorem dX4_carryTowns_0 : decode cX4_carryTowns 0 = .ok (.iconst 0, 1) := by decide +kernel
theorem dX4_carryTowns_1 : decode cX4_carryTowns 1 = .ok (.istore_n 3, 1) := by decide +kernel
theorem dX4_carryTowns_2 : decode cX4_carryTowns 2 = .ok (.iload_n 3, 1) := by decide +kernel
theorem dX4_carryTowns_3 : decode cX4_carryTowns 3 = .ok (.bipush 6, 2) := by decide +kernel
theorem dX4_carryTowns_5 : decode cX4_carryTowns 5 = .ok (.if_icmp .ge 26, 3) := by decide +kernel
theorem dX4_carryTowns_8 : decode cX4_carryTowns 8 = .ok (.aload_n 0, 1) := by decide +kernel
theorem dX4_carryTowns_9 : decode cX4_carryTowns 9 = .ok (.getfield 15, 3) := by decide +kernel
theorem dX4_carryTowns_12 : decode cX4_carryTowns 12 = .ok (.iload_n 3, 1) := by decide +kernel
theorem dX4_carryTowns_13 : decode cX4_carryTowns 13 = .ok (.iaload, 1) := by decide +kernel
theorem dX4_carryTowns_14 : decode cX4_carryTowns 14 = .ok (.iload_n 1, 1) := by decide +kernel
theorem dX4_carryTowns_15 : decode cX4_carryTowns 15 = .ok (.if_icmp .ne 10, 3) := by decide +kernel
theorem dX4_carryTowns_18 : decode cX4_carryTowns 18 = .ok (.aload_n 0, 1) := by decide +kernel
theorem dX4_carryTowns_19 : decode cX4_carryTowns 19 = .ok (.getfield 15, 3) := by decide +kernel
theorem dX4_carryTowns_22 : decode cX4_carryTowns 22 = .ok (.iload_n 3, 1) := by decide +kernel
theorem dX4_carryTowns_23 : decode cX4_carryTowns 23 = .ok (.iload_n 2, 1) := by decide +kernel
theorem dX4_carryTowns_24 : decode cX4_carryTowns 24 = .ok (.iastore, 1) := by decide +kernel
theorem dX4_carryTowns_25 : decode cX4_carryTowns 25 = .ok (.iinc 3 1, 3) := by decide +kernel
theorem dX4_carryTowns_28 : decode cX4_carryTowns 28 = .ok (.goto (-26), 3) := by decide +kernel
theorem dX4_carryTowns_31 : decode cX4_carryTowns 31 = .ok (.return_, 1) := by decide +kernel
theorem dX4_townsIn_0 : decode cX4_townsIn 0 = .ok (.iconst 0, 1) := by decide +kernel
theorem dX4_townsIn_1 : decode cX4_townsIn 1 = .ok (.istore_n 2, 1) := by decide +kernel
theorem dX4_townsIn_2 : decode cX4_townsIn 2 = .ok (.iconst 0, 1) := by decide +kernel
theorem dX4_townsIn_3 : decode cX4_townsIn 3 = .ok (.istore_n 3, 1) := by decide +kernel
theorem dX4_townsIn_4 : decode cX4_townsIn 4 = .ok (.iload_n 3, 1) := by decide +kernel
theorem dX4_townsIn_5 : decode cX4_townsIn 5 = .ok (.bipush 6, 2) := by decide +kernel
theorem dX4_townsIn_7 : decode cX4_townsIn 7 = .ok (.if_icmp .ge 25, 3) := by decide +kernel
theorem dX4_townsIn_10 : decode cX4_townsIn 10 = .ok (.aload_n 0, 1) := by decide +kernel
theorem dX4_townsIn_11 : decode cX4_townsIn 11 = .ok (.getfield 15, 3) := by decide +kernel
theorem dX4_townsIn_14 : decode cX4_townsIn 14 = .ok (.iload_n 3, 1) := by decide +kernel
theorem dX4_townsIn_15 : decode cX4_townsIn 15 = .ok (.iaload, 1) := by decide +kernel
theorem dX4_townsIn_16 : decode cX4_townsIn 16 = .ok (.iload_n 1, 1) := by decide +kernel
theorem dX4_townsIn_17 : decode cX4_townsIn 17 = .ok (.if_icmp .ne 9, 3) := by decide +kernel
theorem dX4_townsIn_20 : decode cX4_townsIn 20 = .ok (.iload_n 2, 1) := by decide +kernel
theorem dX4_townsIn_21 : decode cX4_townsIn 21 = .ok (.iconst 1, 1) := by decide +kernel
theorem dX4_townsIn_22 : decode cX4_townsIn 22 = .ok (.iload_n 3, 1) := by decide +kernel
theorem dX4_townsIn_23 : decode cX4_townsIn 23 = .ok (.ishl, 1) := by decide +kernel
theorem dX4_townsIn_24 : decode cX4_townsIn 24 = .ok (.ior, 1) := by decide +kernel
theorem dX4_townsIn_25 : decode cX4_townsIn 25 = .ok (.istore_n 2, 1) := by decide +kernel
theorem dX4_townsIn_26 : decode cX4_townsIn 26 = .ok (.iinc 3 1, 3) := by decide +kernel
theorem dX4_townsIn_29 : decode cX4_townsIn 29 = .ok (.goto (-25), 3) := by decide +kernel
theorem dX4_townsIn_32 : decode cX4_townsIn 32 = .ok (.iload_n 2, 1) := by decide +kernel
theorem dX4_townsIn_33 : decode cX4_townsIn 33 = .ok (.ireturn, 1) := by decide +kernel
theorem dX4_nearestTowns_0 : decode cX4_nearestTowns 0 = .ok (.iconst (-1), 1) := by decide +kernel
theorem dX4_nearestTowns_1 : decode cX4_nearestTowns 1 = .ok (.istore_n 1, 1) := by decide +kernel
theorem dX4_nearestTowns_2 : decode cX4_nearestTowns 2 = .ok (.iconst 0, 1) := by decide +kernel
theorem dX4_nearestTowns_3 : decode cX4_nearestTowns 3 = .ok (.istore_n 2, 1) := by decide +kernel
theorem dX4_nearestTowns_4 : decode cX4_nearestTowns 4 = .ok (.iload_n 2, 1) := by decide +kernel
theorem dX4_nearestTowns_5 : decode cX4_nearestTowns 5 = .ok (.bipush 6, 2) := by decide +kernel
theorem dX4_nearestTowns_7 : decode cX4_nearestTowns 7 = .ok (.if_icmp .ge 75, 3) := by decide +kernel
theorem dX4_nearestTowns_10 : decode cX4_nearestTowns 10 = .ok (.iload_n 2, 1) := by decide +kernel
theorem dX4_nearestTowns_11 : decode cX4_nearestTowns 11 = .ok (.iconst 1, 1) := by decide +kernel
theorem dX4_nearestTowns_12 : decode cX4_nearestTowns 12 = .ok (.iadd, 1) := by decide +kernel
theorem dX4_nearestTowns_13 : decode cX4_nearestTowns 13 = .ok (.istore_n 3, 1) := by decide +kernel
theorem dX4_nearestTowns_14 : decode cX4_nearestTowns 14 = .ok (.iload_n 3, 1) := by decide +kernel
theorem dX4_nearestTowns_15 : decode cX4_nearestTowns 15 = .ok (.bipush 6, 2) := by decide +kernel
theorem dX4_nearestTowns_17 : decode cX4_nearestTowns 17 = .ok (.if_icmp .ge 59, 3) := by decide +kernel
theorem dX4_nearestTowns_20 : decode cX4_nearestTowns 20 = .ok (.aload_n 0, 1) := by decide +kernel
theorem dX4_nearestTowns_21 : decode cX4_nearestTowns 21 = .ok (.getfield 15, 3) := by decide +kernel
theorem dX4_nearestTowns_24 : decode cX4_nearestTowns 24 = .ok (.iload_n 2, 1) := by decide +kernel
theorem dX4_nearestTowns_25 : decode cX4_nearestTowns 25 = .ok (.iaload, 1) := by decide +kernel
theorem dX4_nearestTowns_26 : decode cX4_nearestTowns 26 = .ok (.aload_n 0, 1) := by decide +kernel
theorem dX4_nearestTowns_27 : decode cX4_nearestTowns 27 = .ok (.getfield 15, 3) := by decide +kernel
theorem dX4_nearestTowns_30 : decode cX4_nearestTowns 30 = .ok (.iload_n 3, 1) := by decide +kernel
theorem dX4_nearestTowns_31 : decode cX4_nearestTowns 31 = .ok (.iaload, 1) := by decide +kernel
theorem dX4_nearestTowns_32 : decode cX4_nearestTowns 32 = .ok (.isub, 1) := by decide +kernel
theorem dX4_nearestTowns_33 : decode cX4_nearestTowns 33 = .ok (.invokestatic 61, 3) := by decide +kernel
theorem dX4_nearestTowns_36 : decode cX4_nearestTowns 36 = .ok (.istore 4, 2) := by decide +kernel
theorem dX4_nearestTowns_38 : decode cX4_nearestTowns 38 = .ok (.aload_n 0, 1) := by decide +kernel
theorem dX4_nearestTowns_39 : decode cX4_nearestTowns 39 = .ok (.getfield 15, 3) := by decide +kernel
theorem dX4_nearestTowns_42 : decode cX4_nearestTowns 42 = .ok (.iload_n 2, 1) := by decide +kernel
theorem dX4_nearestTowns_43 : decode cX4_nearestTowns 43 = .ok (.iaload, 1) := by decide +kernel
theorem dX4_nearestTowns_44 : decode cX4_nearestTowns 44 = .ok (.ifCond .lt 26, 3) := by decide +kernel
theorem dX4_nearestTowns_47 : decode cX4_nearestTowns 47 = .ok (.aload_n 0, 1) := by decide +kernel
theorem dX4_nearestTowns_48 : decode cX4_nearestTowns 48 = .ok (.getfield 15, 3) := by decide +kernel
theorem dX4_nearestTowns_51 : decode cX4_nearestTowns 51 = .ok (.iload_n 3, 1) := by decide +kernel
theorem dX4_nearestTowns_52 : decode cX4_nearestTowns 52 = .ok (.iaload, 1) := by decide +kernel
theorem dX4_nearestTowns_53 : decode cX4_nearestTowns 53 = .ok (.ifCond .lt 17, 3) := by decide +kernel
theorem dX4_nearestTowns_56 : decode cX4_nearestTowns 56 = .ok (.iload_n 1, 1) := by decide +kernel
theorem dX4_nearestTowns_57 : decode cX4_nearestTowns 57 = .ok (.iconst (-1), 1) := by decide +kernel
theorem dX4_nearestTowns_58 : decode cX4_nearestTowns 58 = .ok (.if_icmp .eq 9, 3) := by decide +kernel
theorem dX4_nearestTowns_61 : decode cX4_nearestTowns 61 = .ok (.iload 4, 2) := by decide +kernel
theorem dX4_nearestTowns_63 : decode cX4_nearestTowns 63 = .ok (.iload_n 1, 1) := by decide +kernel
theorem dX4_nearestTowns_64 : decode cX4_nearestTowns 64 = .ok (.if_icmp .ge 6, 3) := by decide +kernel
theorem dX4_nearestTowns_67 : decode cX4_nearestTowns 67 = .ok (.iload 4, 2) := by decide +kernel
theorem dX4_nearestTowns_69 : decode cX4_nearestTowns 69 = .ok (.istore_n 1, 1) := by decide +kernel
theorem dX4_nearestTowns_70 : decode cX4_nearestTowns 70 = .ok (.iinc 3 1, 3) := by decide +kernel
theorem dX4_nearestTowns_73 : decode cX4_nearestTowns 73 = .ok (.goto (-59), 3) := by decide +kernel
theorem dX4_nearestTowns_76 : decode cX4_nearestTowns 76 = .ok (.iinc 2 1, 3) := by decide +kernel
theorem dX4_nearestTowns_79 : decode cX4_nearestTowns 79 = .ok (.goto (-75), 3) := by decide +kernel
theorem dX4_nearestTowns_82 : decode cX4_nearestTowns 82 = .ok (.iload_n 1, 1) := by decide +kernel
theorem dX4_nearestTowns_83 : decode cX4_nearestTowns 83 = .ok (.ireturn, 1) := by decide +kernel
theorem dX4_write_0 : decode cX4_write 0 = .ok (.aload_n 0, 1) := by decide +kernel
theorem dX4_write_1 : decode cX4_write 1 = .ok (.getfield 54, 3) := by decide +kernel
theorem dX4_write_4 : decode cX4_write 4 = .ok (.i2l, 1) := by decide +kernel
theorem dX4_write_5 : decode cX4_write 5 = .ok (.ldc2_w 67, 3) := by decide +kernel
theorem dX4_write_8 : decode cX4_write 8 = .ok (.lmul, 1) := by decide +kernel
theorem dX4_write_9 : decode cX4_write 9 = .ok (.iload_n 1, 1) := by decide +kernel
theorem dX4_write_10 : decode cX4_write 10 = .ok (.i2l, 1) := by decide +kernel
theorem dX4_write_11 : decode cX4_write 11 = .ok (.ladd, 1) := by decide +kernel
theorem dX4_write_12 : decode cX4_write 12 = .ok (.ldc2_w 69, 3) := by decide +kernel
theorem dX4_write_15 : decode cX4_write 15 = .ok (.lmul, 1) := by decide +kernel
theorem dX4_write_16 : decode cX4_write 16 = .ok (.iload_n 2, 1) := by decide +kernel
theorem dX4_write_17 : decode cX4_write 17 = .ok (.i2l, 1) := by decide +kernel
theorem dX4_write_18 : decode cX4_write 18 = .ok (.ladd, 1) := by decide +kernel
theorem dX4_write_19 : decode cX4_write 19 = .ok (.lstore 4, 2) := by decide +kernel
theorem dX4_write_21 : decode cX4_write 21 = .ok (.aload_n 0, 1) := by decide +kernel
theorem dX4_write_22 : decode cX4_write 22 = .ok (.getfield 18, 3) := by decide +kernel
theorem dX4_write_25 : decode cX4_write 25 = .ok (.aload_n 0, 1) := by decide +kernel
theorem dX4_write_26 : decode cX4_write 26 = .ok (.getfield 42, 3) := by decide +kernel
theorem dX4_write_29 : decode cX4_write 29 = .ok (.bipush 30, 2) := by decide +kernel
theorem dX4_write_31 : decode cX4_write 31 = .ok (.irem, 1) := by decide +kernel
theorem dX4_write_32 : decode cX4_write 32 = .ok (.lload 4, 2) := by decide +kernel
theorem dX4_write_34 : decode cX4_write 34 = .ok (.bipush 32, 2) := by decide +kernel
theorem dX4_write_36 : decode cX4_write 36 = .ok (.lshl, 1) := by decide +kernel
theorem dX4_write_37 : decode cX4_write 37 = .ok (.iload_n 3, 1) := by decide +kernel
theorem dX4_write_38 : decode cX4_write 38 = .ok (.i2l, 1) := by decide +kernel
theorem dX4_write_39 : decode cX4_write 39 = .ok (.lor, 1) := by decide +kernel
theorem dX4_write_40 : decode cX4_write 40 = .ok (.lastore, 1) := by decide +kernel
theorem dX4_write_41 : decode cX4_write 41 = .ok (.aload_n 0, 1) := by decide +kernel
theorem dX4_write_42 : decode cX4_write 42 = .ok (.aload_n 0, 1) := by decide +kernel
theorem dX4_write_43 : decode cX4_write 43 = .ok (.getfield 42, 3) := by decide +kernel
theorem dX4_write_46 : decode cX4_write 46 = .ok (.iconst 1, 1) := by decide +kernel
theorem dX4_write_47 : decode cX4_write 47 = .ok (.iadd, 1) := by decide +kernel
theorem dX4_write_48 : decode cX4_write 48 = .ok (.bipush 60, 2) := by decide +kernel
theorem dX4_write_50 : decode cX4_write 50 = .ok (.if_icmp .ge 12, 3) := by decide +kernel
theorem dX4_write_53 : decode cX4_write 53 = .ok (.aload_n 0, 1) := by decide +kernel
theorem dX4_write_54 : decode cX4_write 54 = .ok (.getfield 42, 3) := by decide +kernel
theorem dX4_write_57 : decode cX4_write 57 = .ok (.iconst 1, 1) := by decide +kernel
theorem dX4_write_58 : decode cX4_write 58 = .ok (.iadd, 1) := by decide +kernel
theorem dX4_write_59 : decode cX4_write 59 = .ok (.goto 5, 3) := by decide +kernel
theorem dX4_write_62 : decode cX4_write 62 = .ok (.bipush 30, 2) := by decide +kernel
theorem dX4_write_64 : decode cX4_write 64 = .ok (.putfield 42, 3) := by decide +kernel
theorem dX4_write_67 : decode cX4_write 67 = .ok (.return_, 1) := by decide +kernel
theorem dX4_bookSize_0 : decode cX4_bookSize 0 = .ok (.aload_n 0, 1) := by decide +kernel
theorem dX4_bookSize_1 : decode cX4_bookSize 1 = .ok (.getfield 42, 3) := by decide +kernel
theorem dX4_bookSize_4 : decode cX4_bookSize 4 = .ok (.bipush 30, 2) := by decide +kernel
theorem dX4_bookSize_6 : decode cX4_bookSize 6 = .ok (.invokestatic 71, 3) := by decide +kernel
theorem dX4_bookSize_9 : decode cX4_bookSize 9 = .ok (.ireturn, 1) := by decide +kernel
theorem dX4_bookPart_0 : decode cX4_bookPart 0 = .ok (.aload_n 0, 1) := by decide +kernel
theorem dX4_bookPart_1 : decode cX4_bookPart 1 = .ok (.getfield 18, 3) := by decide +kernel
theorem dX4_bookPart_4 : decode cX4_bookPart 4 = .ok (.aload_n 0, 1) := by decide +kernel
theorem dX4_bookPart_5 : decode cX4_bookPart 5 = .ok (.getfield 42, 3) := by decide +kernel
theorem dX4_bookPart_8 : decode cX4_bookPart 8 = .ok (.aload_n 0, 1) := by decide +kernel
theorem dX4_bookPart_9 : decode cX4_bookPart 9 = .ok (.invokevirtual 75, 3) := by decide +kernel
theorem dX4_bookPart_12 : decode cX4_bookPart 12 = .ok (.isub, 1) := by decide +kernel
theorem dX4_bookPart_13 : decode cX4_bookPart 13 = .ok (.iload_n 1, 1) := by decide +kernel
theorem dX4_bookPart_14 : decode cX4_bookPart 14 = .ok (.iadd, 1) := by decide +kernel
theorem dX4_bookPart_15 : decode cX4_bookPart 15 = .ok (.bipush 30, 2) := by decide +kernel
theorem dX4_bookPart_17 : decode cX4_bookPart 17 = .ok (.irem, 1) := by decide +kernel
theorem dX4_bookPart_18 : decode cX4_bookPart 18 = .ok (.laload, 1) := by decide +kernel
theorem dX4_bookPart_19 : decode cX4_bookPart 19 = .ok (.lstore_n 3, 1) := by decide +kernel
theorem dX4_bookPart_20 : decode cX4_bookPart 20 = .ok (.lload_n 3, 1) := by decide +kernel
theorem dX4_bookPart_21 : decode cX4_bookPart 21 = .ok (.bipush 32, 2) := by decide +kernel
theorem dX4_bookPart_23 : decode cX4_bookPart 23 = .ok (.lshr, 1) := by decide +kernel
theorem dX4_bookPart_24 : decode cX4_bookPart 24 = .ok (.l2i, 1) := by decide +kernel
theorem dX4_bookPart_25 : decode cX4_bookPart 25 = .ok (.istore 5, 2) := by decide +kernel
theorem dX4_bookPart_27 : decode cX4_bookPart 27 = .ok (.iload_n 2, 1) := by decide +kernel
theorem dX4_bookPart_28 : decode cX4_bookPart 28 = .ok (.tableswitch 47 0 2 #[28, 34, 41], 28) := by decide +kernel
theorem dX4_bookPart_56 : decode cX4_bookPart 56 = .ok (.iload 5, 2) := by decide +kernel
theorem dX4_bookPart_58 : decode cX4_bookPart 58 = .ok (.bipush 7, 2) := by decide +kernel
theorem dX4_bookPart_60 : decode cX4_bookPart 60 = .ok (.ishr, 1) := by decide +kernel
theorem dX4_bookPart_61 : decode cX4_bookPart 61 = .ok (.ireturn, 1) := by decide +kernel
theorem dX4_bookPart_62 : decode cX4_bookPart 62 = .ok (.iload 5, 2) := by decide +kernel
theorem dX4_bookPart_64 : decode cX4_bookPart 64 = .ok (.iconst 5, 1) := by decide +kernel
theorem dX4_bookPart_65 : decode cX4_bookPart 65 = .ok (.ishr, 1) := by decide +kernel
theorem dX4_bookPart_66 : decode cX4_bookPart 66 = .ok (.iconst 3, 1) := by decide +kernel
theorem dX4_bookPart_67 : decode cX4_bookPart 67 = .ok (.iand, 1) := by decide +kernel
theorem dX4_bookPart_68 : decode cX4_bookPart 68 = .ok (.ireturn, 1) := by decide +kernel
theorem dX4_bookPart_69 : decode cX4_bookPart 69 = .ok (.iload 5, 2) := by decide +kernel
theorem dX4_bookPart_71 : decode cX4_bookPart 71 = .ok (.bipush 31, 2) := by decide +kernel
theorem dX4_bookPart_73 : decode cX4_bookPart 73 = .ok (.iand, 1) := by decide +kernel
theorem dX4_bookPart_74 : decode cX4_bookPart 74 = .ok (.ireturn, 1) := by decide +kernel
theorem dX4_bookPart_75 : decode cX4_bookPart 75 = .ok (.lload_n 3, 1) := by decide +kernel
theorem dX4_bookPart_76 : decode cX4_bookPart 76 = .ok (.l2i, 1) := by decide +kernel
theorem dX4_bookPart_77 : decode cX4_bookPart 77 = .ok (.ireturn, 1) := by decide +kernel
theorem dX4_movedBy_0 : decode cX4_movedBy 0 = .ok (.iconst 0, 1) := by decide +kernel
theorem dX4_movedBy_1 : decode cX4_movedBy 1 = .ok (.istore_n 2, 1) := by decide +kernel
theorem dX4_movedBy_2 : decode cX4_movedBy 2 = .ok (.iconst 0, 1) := by decide +kernel
theorem dX4_movedBy_3 : decode cX4_movedBy 3 = .ok (.istore_n 3, 1) := by decide +kernel
theorem dX4_movedBy_4 : decode cX4_movedBy 4 = .ok (.iload_n 3, 1) := by decide +kernel
theorem dX4_movedBy_5 : decode cX4_movedBy 5 = .ok (.aload_n 0, 1) := by decide +kernel
theorem dX4_movedBy_6 : decode cX4_movedBy 6 = .ok (.invokevirtual 75, 3) := by decide +kernel
theorem dX4_movedBy_9 : decode cX4_movedBy 9 = .ok (.if_icmp .ge 33, 3) := by decide +kernel
theorem dX4_movedBy_12 : decode cX4_movedBy 12 = .ok (.iload_n 1, 1) := by decide +kernel
theorem dX4_movedBy_13 : decode cX4_movedBy 13 = .ok (.iconst (-1), 1) := by decide +kernel
theorem dX4_movedBy_14 : decode cX4_movedBy 14 = .ok (.if_icmp .eq 13, 3) := by decide +kernel
theorem dX4_movedBy_17 : decode cX4_movedBy 17 = .ok (.aload_n 0, 1) := by decide +kernel
theorem dX4_movedBy_18 : decode cX4_movedBy 18 = .ok (.iload_n 3, 1) := by decide +kernel
theorem dX4_movedBy_19 : decode cX4_movedBy 19 = .ok (.iconst 1, 1) := by decide +kernel
theorem dX4_movedBy_20 : decode cX4_movedBy 20 = .ok (.invokevirtual 79, 3) := by decide +kernel
theorem dX4_movedBy_23 : decode cX4_movedBy 23 = .ok (.iload_n 1, 1) := by decide +kernel
theorem dX4_movedBy_24 : decode cX4_movedBy 24 = .ok (.if_icmp .ne 12, 3) := by decide +kernel
theorem dX4_movedBy_27 : decode cX4_movedBy 27 = .ok (.iload_n 2, 1) := by decide +kernel
theorem dX4_movedBy_28 : decode cX4_movedBy 28 = .ok (.aload_n 0, 1) := by decide +kernel
theorem dX4_movedBy_29 : decode cX4_movedBy 29 = .ok (.iload_n 3, 1) := by decide +kernel
theorem dX4_movedBy_30 : decode cX4_movedBy 30 = .ok (.iconst 3, 1) := by decide +kernel
theorem dX4_movedBy_31 : decode cX4_movedBy 31 = .ok (.invokevirtual 79, 3) := by decide +kernel
theorem dX4_movedBy_34 : decode cX4_movedBy 34 = .ok (.iadd, 1) := by decide +kernel
theorem dX4_movedBy_35 : decode cX4_movedBy 35 = .ok (.istore_n 2, 1) := by decide +kernel
theorem dX4_movedBy_36 : decode cX4_movedBy 36 = .ok (.iinc 3 1, 3) := by decide +kernel
theorem dX4_movedBy_39 : decode cX4_movedBy 39 = .ok (.goto (-35), 3) := by decide +kernel
theorem dX4_movedBy_42 : decode cX4_movedBy 42 = .ok (.iload_n 2, 1) := by decide +kernel
theorem dX4_movedBy_43 : decode cX4_movedBy 43 = .ok (.ireturn, 1) := by decide +kernel
