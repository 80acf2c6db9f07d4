theorem dX1_init_0 : decode cX1_init 0 = .ok (.aload_n 0, 1) := by decide +kernel
theorem dX1_init_1 : decode cX1_init 1 = .ok (.invokespecial 3, 3) := by decide +kernel
theorem dX1_init_4 : decode cX1_init 4 = .ok (.aload_n 0, 1) := by decide +kernel
theorem dX1_init_5 : decode cX1_init 5 = .ok (.bipush 72, 2) := by decide +kernel
theorem dX1_init_7 : decode cX1_init 7 = .ok (.newarray .int, 2) := by decide +kernel
theorem dX1_init_9 : decode cX1_init 9 = .ok (.putfield 11, 3) := by decide +kernel
theorem dX1_init_12 : decode cX1_init 12 = .ok (.aload_n 0, 1) := by decide +kernel
theorem dX1_init_13 : decode cX1_init 13 = .ok (.sipush 300, 3) := by decide +kernel
theorem dX1_init_16 : decode cX1_init 16 = .ok (.newarray .int, 2) := by decide +kernel
theorem dX1_init_18 : decode cX1_init 18 = .ok (.putfield 15, 3) := by decide +kernel
theorem dX1_init_21 : decode cX1_init 21 = .ok (.aload_n 0, 1) := by decide +kernel
theorem dX1_init_22 : decode cX1_init 22 = .ok (.getstatic 18, 3) := by decide +kernel
theorem dX1_init_25 : decode cX1_init 25 = .ok (.putfield 23, 3) := by decide +kernel
theorem dX1_init_28 : decode cX1_init 28 = .ok (.aload_n 0, 1) := by decide +kernel
theorem dX1_init_29 : decode cX1_init 29 = .ok (.getstatic 18, 3) := by decide +kernel
theorem dX1_init_32 : decode cX1_init 32 = .ok (.putfield 26, 3) := by decide +kernel
theorem dX1_init_35 : decode cX1_init 35 = .ok (.aload_n 0, 1) := by decide +kernel
theorem dX1_init_36 : decode cX1_init 36 = .ok (.aload_n 1, 1) := by decide +kernel
theorem dX1_init_37 : decode cX1_init 37 = .ok (.putfield 29, 3) := by decide +kernel
theorem dX1_init_40 : decode cX1_init 40 = .ok (.return_, 1) := by decide +kernel
theorem dX1_readTape_0 : decode cX1_readTape 0 = .ok (.aload_n 0, 1) := by decide +kernel
theorem dX1_readTape_1 : decode cX1_readTape 1 = .ok (.iconst 1, 1) := by decide +kernel
theorem dX1_readTape_2 : decode cX1_readTape 2 = .ok (.putfield 33, 3) := by decide +kernel
theorem dX1_readTape_5 : decode cX1_readTape 5 = .ok (.aload_n 0, 1) := by decide +kernel
theorem dX1_readTape_6 : decode cX1_readTape 6 = .ok (.iconst 0, 1) := by decide +kernel
theorem dX1_readTape_7 : decode cX1_readTape 7 = .ok (.putfield 37, 3) := by decide +kernel
theorem dX1_readTape_10 : decode cX1_readTape 10 = .ok (.aload_n 0, 1) := by decide +kernel
theorem dX1_readTape_11 : decode cX1_readTape 11 = .ok (.iconst (-1), 1) := by decide +kernel
theorem dX1_readTape_12 : decode cX1_readTape 12 = .ok (.putfield 41, 3) := by decide +kernel
theorem dX1_readTape_15 : decode cX1_readTape 15 = .ok (.aload_n 0, 1) := by decide +kernel
theorem dX1_readTape_16 : decode cX1_readTape 16 = .ok (.iconst 0, 1) := by decide +kernel
theorem dX1_readTape_17 : decode cX1_readTape 17 = .ok (.putfield 44, 3) := by decide +kernel
theorem dX1_readTape_20 : decode cX1_readTape 20 = .ok (.aload_n 0, 1) := by decide +kernel
theorem dX1_readTape_21 : decode cX1_readTape 21 = .ok (.getstatic 18, 3) := by decide +kernel
theorem dX1_readTape_24 : decode cX1_readTape 24 = .ok (.putfield 23, 3) := by decide +kernel
theorem dX1_readTape_27 : decode cX1_readTape 27 = .ok (.aload_n 0, 1) := by decide +kernel
theorem dX1_readTape_28 : decode cX1_readTape 28 = .ok (.getstatic 18, 3) := by decide +kernel
theorem dX1_readTape_31 : decode cX1_readTape 31 = .ok (.putfield 26, 3) := by decide +kernel
theorem dX1_readTape_34 : decode cX1_readTape 34 = .ok (.aload_n 0, 1) := by decide +kernel
theorem dX1_readTape_35 : decode cX1_readTape 35 = .ok (.getfield 29, 3) := by decide +kernel
theorem dX1_readTape_38 : decode cX1_readTape 38 = .ok (.invokevirtual 47, 3) := by decide +kernel
theorem dX1_readTape_41 : decode cX1_readTape 41 = .ok (.aload_n 0, 1) := by decide +kernel
theorem dX1_readTape_42 : decode cX1_readTape 42 = .ok (.iconst 0, 1) := by decide +kernel
theorem dX1_readTape_43 : decode cX1_readTape 43 = .ok (.putfield 52, 3) := by decide +kernel
theorem dX1_readTape_46 : decode cX1_readTape 46 = .ok (.aload_n 0, 1) := by decide +kernel
theorem dX1_readTape_47 : decode cX1_readTape 47 = .ok (.aload_n 0, 1) := by decide +kernel
theorem dX1_readTape_48 : decode cX1_readTape 48 = .ok (.getfield 29, 3) := by decide +kernel
theorem dX1_readTape_51 : decode cX1_readTape 51 = .ok (.getfield 55, 3) := by decide +kernel
theorem dX1_readTape_54 : decode cX1_readTape 54 = .ok (.aload_n 0, 1) := by decide +kernel
theorem dX1_readTape_55 : decode cX1_readTape 55 = .ok (.getfield 52, 3) := by decide +kernel
theorem dX1_readTape_58 : decode cX1_readTape 58 = .ok (.iaload, 1) := by decide +kernel
theorem dX1_readTape_59 : decode cX1_readTape 59 = .ok (.putfield 58, 3) := by decide +kernel
theorem dX1_readTape_62 : decode cX1_readTape 62 = .ok (.iconst 1, 1) := by decide +kernel
theorem dX1_readTape_63 : decode cX1_readTape 63 = .ok (.istore_n 1, 1) := by decide +kernel
theorem dX1_readTape_64 : decode cX1_readTape 64 = .ok (.iconst 0, 1) := by decide +kernel
theorem dX1_readTape_65 : decode cX1_readTape 65 = .ok (.istore_n 2, 1) := by decide +kernel
theorem dX1_readTape_66 : decode cX1_readTape 66 = .ok (.iload_n 2, 1) := by decide +kernel
theorem dX1_readTape_67 : decode cX1_readTape 67 = .ok (.bipush 24, 2) := by decide +kernel
theorem dX1_readTape_69 : decode cX1_readTape 69 = .ok (.if_icmp .gt 27, 3) := by decide +kernel
theorem dX1_readTape_72 : decode cX1_readTape 72 = .ok (.iload_n 1, 1) := by decide +kernel
theorem dX1_readTape_73 : decode cX1_readTape 73 = .ok (.ifCond .eq 23, 3) := by decide +kernel
theorem dX1_readTape_76 : decode cX1_readTape 76 = .ok (.aload_n 0, 1) := by decide +kernel
theorem dX1_readTape_77 : decode cX1_readTape 77 = .ok (.getfield 58, 3) := by decide +kernel
theorem dX1_readTape_80 : decode cX1_readTape 80 = .ok (.bipush 40, 2) := by decide +kernel
theorem dX1_readTape_82 : decode cX1_readTape 82 = .ok (.if_icmp .eq 14, 3) := by decide +kernel
theorem dX1_readTape_85 : decode cX1_readTape 85 = .ok (.aload_n 0, 1) := by decide +kernel
theorem dX1_readTape_86 : decode cX1_readTape 86 = .ok (.invokevirtual 63, 3) := by decide +kernel
theorem dX1_readTape_89 : decode cX1_readTape 89 = .ok (.istore_n 1, 1) := by decide +kernel
theorem dX1_readTape_90 : decode cX1_readTape 90 = .ok (.iinc 2 1, 3) := by decide +kernel
theorem dX1_readTape_93 : decode cX1_readTape 93 = .ok (.goto (-27), 3) := by decide +kernel
theorem dX1_readTape_96 : decode cX1_readTape 96 = .ok (.aload_n 0, 1) := by decide +kernel
theorem dX1_readTape_97 : decode cX1_readTape 97 = .ok (.getfield 29, 3) := by decide +kernel
theorem dX1_readTape_100 : decode cX1_readTape 100 = .ok (.iconst 0, 1) := by decide +kernel
theorem dX1_readTape_101 : decode cX1_readTape 101 = .ok (.putfield 67, 3) := by decide +kernel
theorem dX1_readTape_104 : decode cX1_readTape 104 = .ok (.iload_n 1, 1) := by decide +kernel
theorem dX1_readTape_105 : decode cX1_readTape 105 = .ok (.ifCond .eq 34, 3) := by decide +kernel
theorem dX1_readTape_108 : decode cX1_readTape 108 = .ok (.new 19, 3) := by decide +kernel
theorem dX1_readTape_111 : decode cX1_readTape 111 = .ok (.dup, 1) := by decide +kernel
theorem dX1_readTape_112 : decode cX1_readTape 112 = .ok (.aload_n 0, 1) := by decide +kernel
theorem dX1_readTape_113 : decode cX1_readTape 113 = .ok (.getfield 11, 3) := by decide +kernel
theorem dX1_readTape_116 : decode cX1_readTape 116 = .ok (.iconst 3, 1) := by decide +kernel
theorem dX1_readTape_117 : decode cX1_readTape 117 = .ok (.aload_n 0, 1) := by decide +kernel
theorem dX1_readTape_118 : decode cX1_readTape 118 = .ok (.getfield 44, 3) := by decide +kernel
theorem dX1_readTape_121 : decode cX1_readTape 121 = .ok (.imul, 1) := by decide +kernel
theorem dX1_readTape_122 : decode cX1_readTape 122 = .ok (.invokestatic 70, 3) := by decide +kernel
theorem dX1_readTape_125 : decode cX1_readTape 125 = .ok (.aload_n 0, 1) := by decide +kernel
theorem dX1_readTape_126 : decode cX1_readTape 126 = .ok (.getfield 23, 3) := by decide +kernel
theorem dX1_readTape_129 : decode cX1_readTape 129 = .ok (.aload_n 0, 1) := by decide +kernel
theorem dX1_readTape_130 : decode cX1_readTape 130 = .ok (.getfield 26, 3) := by decide +kernel
theorem dX1_readTape_133 : decode cX1_readTape 133 = .ok (.invokespecial 76, 3) := by decide +kernel
theorem dX1_readTape_136 : decode cX1_readTape 136 = .ok (.goto 4, 3) := by decide +kernel
theorem dX1_readTape_139 : decode cX1_readTape 139 = .ok (.aconst_null, 1) := by decide +kernel
theorem dX1_readTape_140 : decode cX1_readTape 140 = .ok (.areturn, 1) := by decide +kernel
theorem dX1_faulty_0 : decode cX1_faulty 0 = .ok (.aload_n 0, 1) := by decide +kernel
theorem dX1_faulty_1 : decode cX1_faulty 1 = .ok (.iload_n 1, 1) := by decide +kernel
theorem dX1_faulty_2 : decode cX1_faulty 2 = .ok (.putfield 37, 3) := by decide +kernel
theorem dX1_faulty_5 : decode cX1_faulty 5 = .ok (.aload_n 0, 1) := by decide +kernel
theorem dX1_faulty_6 : decode cX1_faulty 6 = .ok (.aload_n 0, 1) := by decide +kernel
theorem dX1_faulty_7 : decode cX1_faulty 7 = .ok (.getfield 29, 3) := by decide +kernel
theorem dX1_faulty_10 : decode cX1_faulty 10 = .ok (.getfield 79, 3) := by decide +kernel
theorem dX1_faulty_13 : decode cX1_faulty 13 = .ok (.aload_n 0, 1) := by decide +kernel
theorem dX1_faulty_14 : decode cX1_faulty 14 = .ok (.getfield 52, 3) := by decide +kernel
theorem dX1_faulty_17 : decode cX1_faulty 17 = .ok (.iaload, 1) := by decide +kernel
theorem dX1_faulty_18 : decode cX1_faulty 18 = .ok (.putfield 41, 3) := by decide +kernel
theorem dX1_faulty_21 : decode cX1_faulty 21 = .ok (.iconst 0, 1) := by decide +kernel
theorem dX1_faulty_22 : decode cX1_faulty 22 = .ok (.ireturn, 1) := by decide +kernel
theorem dX1_advance_0 : decode cX1_advance 0 = .ok (.aload_n 0, 1) := by decide +kernel
theorem dX1_advance_1 : decode cX1_advance 1 = .ok (.getfield 52, 3) := by decide +kernel
theorem dX1_advance_4 : decode cX1_advance 4 = .ok (.iconst 1, 1) := by decide +kernel
theorem dX1_advance_5 : decode cX1_advance 5 = .ok (.iadd, 1) := by decide +kernel
theorem dX1_advance_6 : decode cX1_advance 6 = .ok (.aload_n 0, 1) := by decide +kernel
theorem dX1_advance_7 : decode cX1_advance 7 = .ok (.getfield 29, 3) := by decide +kernel
theorem dX1_advance_10 : decode cX1_advance 10 = .ok (.getfield 82, 3) := by decide +kernel
theorem dX1_advance_13 : decode cX1_advance 13 = .ok (.if_icmp .ge 13, 3) := by decide +kernel
theorem dX1_advance_16 : decode cX1_advance 16 = .ok (.aload_n 0, 1) := by decide +kernel
theorem dX1_advance_17 : decode cX1_advance 17 = .ok (.dup, 1) := by decide +kernel
theorem dX1_advance_18 : decode cX1_advance 18 = .ok (.getfield 52, 3) := by decide +kernel
theorem dX1_advance_21 : decode cX1_advance 21 = .ok (.iconst 1, 1) := by decide +kernel
theorem dX1_advance_22 : decode cX1_advance 22 = .ok (.iadd, 1) := by decide +kernel
theorem dX1_advance_23 : decode cX1_advance 23 = .ok (.putfield 52, 3) := by decide +kernel
theorem dX1_advance_26 : decode cX1_advance 26 = .ok (.aload_n 0, 1) := by decide +kernel
theorem dX1_advance_27 : decode cX1_advance 27 = .ok (.aload_n 0, 1) := by decide +kernel
theorem dX1_advance_28 : decode cX1_advance 28 = .ok (.getfield 29, 3) := by decide +kernel
theorem dX1_advance_31 : decode cX1_advance 31 = .ok (.getfield 55, 3) := by decide +kernel
theorem dX1_advance_34 : decode cX1_advance 34 = .ok (.aload_n 0, 1) := by decide +kernel
theorem dX1_advance_35 : decode cX1_advance 35 = .ok (.getfield 52, 3) := by decide +kernel
theorem dX1_advance_38 : decode cX1_advance 38 = .ok (.iaload, 1) := by decide +kernel
theorem dX1_advance_39 : decode cX1_advance 39 = .ok (.putfield 58, 3) := by decide +kernel
theorem dX1_advance_42 : decode cX1_advance 42 = .ok (.return_, 1) := by decide +kernel
theorem dX1_takes_0 : decode cX1_takes 0 = .ok (.aload_n 0, 1) := by decide +kernel
theorem dX1_takes_1 : decode cX1_takes 1 = .ok (.getfield 58, 3) := by decide +kernel
theorem dX1_takes_4 : decode cX1_takes 4 = .ok (.iload_n 1, 1) := by decide +kernel
theorem dX1_takes_5 : decode cX1_takes 5 = .ok (.if_icmp .eq 9, 3) := by decide +kernel
theorem dX1_takes_8 : decode cX1_takes 8 = .ok (.aload_n 0, 1) := by decide +kernel
theorem dX1_takes_9 : decode cX1_takes 9 = .ok (.iconst 1, 1) := by decide +kernel
theorem dX1_takes_10 : decode cX1_takes 10 = .ok (.invokevirtual 85, 3) := by decide +kernel
theorem dX1_takes_13 : decode cX1_takes 13 = .ok (.ireturn, 1) := by decide +kernel
theorem dX1_takes_14 : decode cX1_takes 14 = .ok (.aload_n 0, 1) := by decide +kernel
theorem dX1_takes_15 : decode cX1_takes 15 = .ok (.invokevirtual 89, 3) := by decide +kernel
theorem dX1_takes_18 : decode cX1_takes 18 = .ok (.iconst 1, 1) := by decide +kernel
theorem dX1_takes_19 : decode cX1_takes 19 = .ok (.ireturn, 1) := by decide +kernel
theorem dX1_clause_0 : decode cX1_clause 0 = .ok (.aload_n 0, 1) := by decide +kernel
theorem dX1_clause_1 : decode cX1_clause 1 = .ok (.getfield 58, 3) := by decide +kernel
theorem dX1_clause_4 : decode cX1_clause 4 = .ok (.istore_n 1, 1) := by decide +kernel
theorem dX1_clause_5 : decode cX1_clause 5 = .ok (.iload_n 1, 1) := by decide +kernel
theorem dX1_clause_6 : decode cX1_clause 6 = .ok (.bipush 9, 2) := by decide +kernel
theorem dX1_clause_8 : decode cX1_clause 8 = .ok (.if_icmp .le 9, 3) := by decide +kernel
theorem dX1_clause_11 : decode cX1_clause 11 = .ok (.aload_n 0, 1) := by decide +kernel
theorem dX1_clause_12 : decode cX1_clause 12 = .ok (.iconst 1, 1) := by decide +kernel
theorem dX1_clause_13 : decode cX1_clause 13 = .ok (.invokevirtual 85, 3) := by decide +kernel
theorem dX1_clause_16 : decode cX1_clause 16 = .ok (.ireturn, 1) := by decide +kernel
theorem dX1_clause_17 : decode cX1_clause 17 = .ok (.iload_n 1, 1) := by decide +kernel
theorem dX1_clause_18 : decode cX1_clause 18 = .ok (.ifCond .ne 11, 3) := by decide +kernel
theorem dX1_clause_21 : decode cX1_clause 21 = .ok (.aload_n 0, 1) := by decide +kernel
theorem dX1_clause_22 : decode cX1_clause 22 = .ok (.getfield 23, 3) := by decide +kernel
theorem dX1_clause_25 : decode cX1_clause 25 = .ok (.arraylength, 1) := by decide +kernel
theorem dX1_clause_26 : decode cX1_clause 26 = .ok (.ifCond .gt 16, 3) := by decide +kernel
theorem dX1_clause_29 : decode cX1_clause 29 = .ok (.iload_n 1, 1) := by decide +kernel
theorem dX1_clause_30 : decode cX1_clause 30 = .ok (.iconst 1, 1) := by decide +kernel
theorem dX1_clause_31 : decode cX1_clause 31 = .ok (.if_icmp .ne 17, 3) := by decide +kernel
theorem dX1_clause_34 : decode cX1_clause 34 = .ok (.aload_n 0, 1) := by decide +kernel
theorem dX1_clause_35 : decode cX1_clause 35 = .ok (.getfield 26, 3) := by decide +kernel
theorem dX1_clause_38 : decode cX1_clause 38 = .ok (.arraylength, 1) := by decide +kernel
theorem dX1_clause_39 : decode cX1_clause 39 = .ok (.ifCond .le 9, 3) := by decide +kernel
theorem dX1_clause_42 : decode cX1_clause 42 = .ok (.aload_n 0, 1) := by decide +kernel
theorem dX1_clause_43 : decode cX1_clause 43 = .ok (.iconst 4, 1) := by decide +kernel
theorem dX1_clause_44 : decode cX1_clause 44 = .ok (.invokevirtual 85, 3) := by decide +kernel
theorem dX1_clause_47 : decode cX1_clause 47 = .ok (.ireturn, 1) := by decide +kernel
theorem dX1_clause_48 : decode cX1_clause 48 = .ok (.aload_n 0, 1) := by decide +kernel
theorem dX1_clause_49 : decode cX1_clause 49 = .ok (.getfield 44, 3) := by decide +kernel
theorem dX1_clause_52 : decode cX1_clause 52 = .ok (.bipush 24, 2) := by decide +kernel
theorem dX1_clause_54 : decode cX1_clause 54 = .ok (.if_icmp .lt 10, 3) := by decide +kernel
theorem dX1_clause_57 : decode cX1_clause 57 = .ok (.aload_n 0, 1) := by decide +kernel
theorem dX1_clause_58 : decode cX1_clause 58 = .ok (.bipush 6, 2) := by decide +kernel
theorem dX1_clause_60 : decode cX1_clause 60 = .ok (.invokevirtual 85, 3) := by decide +kernel
theorem dX1_clause_63 : decode cX1_clause 63 = .ok (.ireturn, 1) := by decide +kernel
theorem dX1_clause_64 : decode cX1_clause 64 = .ok (.aload_n 0, 1) := by decide +kernel
theorem dX1_clause_65 : decode cX1_clause 65 = .ok (.getfield 11, 3) := by decide +kernel
theorem dX1_clause_68 : decode cX1_clause 68 = .ok (.iconst 3, 1) := by decide +kernel
theorem dX1_clause_69 : decode cX1_clause 69 = .ok (.aload_n 0, 1) := by decide +kernel
theorem dX1_clause_70 : decode cX1_clause 70 = .ok (.getfield 44, 3) := by decide +kernel
theorem dX1_clause_73 : decode cX1_clause 73 = .ok (.imul, 1) := by decide +kernel
theorem dX1_clause_74 : decode cX1_clause 74 = .ok (.iload_n 1, 1) := by decide +kernel
theorem dX1_clause_75 : decode cX1_clause 75 = .ok (.iastore, 1) := by decide +kernel
theorem dX1_clause_76 : decode cX1_clause 76 = .ok (.aload_n 0, 1) := by decide +kernel
theorem dX1_clause_77 : decode cX1_clause 77 = .ok (.getfield 11, 3) := by decide +kernel
theorem dX1_clause_80 : decode cX1_clause 80 = .ok (.iconst 3, 1) := by decide +kernel
theorem dX1_clause_81 : decode cX1_clause 81 = .ok (.aload_n 0, 1) := by decide +kernel
theorem dX1_clause_82 : decode cX1_clause 82 = .ok (.getfield 44, 3) := by decide +kernel
theorem dX1_clause_85 : decode cX1_clause 85 = .ok (.imul, 1) := by decide +kernel
theorem dX1_clause_86 : decode cX1_clause 86 = .ok (.iconst 1, 1) := by decide +kernel
theorem dX1_clause_87 : decode cX1_clause 87 = .ok (.iadd, 1) := by decide +kernel
theorem dX1_clause_88 : decode cX1_clause 88 = .ok (.iconst 0, 1) := by decide +kernel
theorem dX1_clause_89 : decode cX1_clause 89 = .ok (.iastore, 1) := by decide +kernel
theorem dX1_clause_90 : decode cX1_clause 90 = .ok (.aload_n 0, 1) := by decide +kernel
theorem dX1_clause_91 : decode cX1_clause 91 = .ok (.getfield 11, 3) := by decide +kernel
theorem dX1_clause_94 : decode cX1_clause 94 = .ok (.iconst 3, 1) := by decide +kernel
theorem dX1_clause_95 : decode cX1_clause 95 = .ok (.aload_n 0, 1) := by decide +kernel
theorem dX1_clause_96 : decode cX1_clause 96 = .ok (.getfield 44, 3) := by decide +kernel
theorem dX1_clause_99 : decode cX1_clause 99 = .ok (.imul, 1) := by decide +kernel
theorem dX1_clause_100 : decode cX1_clause 100 = .ok (.iconst 2, 1) := by decide +kernel
theorem dX1_clause_101 : decode cX1_clause 101 = .ok (.iadd, 1) := by decide +kernel
theorem dX1_clause_102 : decode cX1_clause 102 = .ok (.iconst 0, 1) := by decide +kernel
theorem dX1_clause_103 : decode cX1_clause 103 = .ok (.iastore, 1) := by decide +kernel
theorem dX1_clause_104 : decode cX1_clause 104 = .ok (.aload_n 0, 1) := by decide +kernel
theorem dX1_clause_105 : decode cX1_clause 105 = .ok (.invokevirtual 89, 3) := by decide +kernel
theorem dX1_clause_108 : decode cX1_clause 108 = .ok (.iload_n 1, 1) := by decide +kernel
theorem dX1_clause_109 : decode cX1_clause 109 = .ok (.iconst 1, 1) := by decide +kernel
theorem dX1_clause_110 : decode cX1_clause 110 = .ok (.if_icmp .gt 11, 3) := by decide +kernel
theorem dX1_clause_113 : decode cX1_clause 113 = .ok (.aload_n 0, 1) := by decide +kernel
theorem dX1_clause_114 : decode cX1_clause 114 = .ok (.iload_n 1, 1) := by decide +kernel
theorem dX1_clause_115 : decode cX1_clause 115 = .ok (.invokevirtual 92, 3) := by decide +kernel
theorem dX1_clause_118 : decode cX1_clause 118 = .ok (.goto 8, 3) := by decide +kernel
theorem dX1_clause_121 : decode cX1_clause 121 = .ok (.aload_n 0, 1) := by decide +kernel
theorem dX1_clause_122 : decode cX1_clause 122 = .ok (.iload_n 1, 1) := by decide +kernel
theorem dX1_clause_123 : decode cX1_clause 123 = .ok (.invokevirtual 95, 3) := by decide +kernel
theorem dX1_clause_126 : decode cX1_clause 126 = .ok (.istore_n 2, 1) := by decide +kernel
theorem dX1_clause_127 : decode cX1_clause 127 = .ok (.aload_n 0, 1) := by decide +kernel
theorem dX1_clause_128 : decode cX1_clause 128 = .ok (.dup, 1) := by decide +kernel
theorem dX1_clause_129 : decode cX1_clause 129 = .ok (.getfield 44, 3) := by decide +kernel
theorem dX1_clause_132 : decode cX1_clause 132 = .ok (.iconst 1, 1) := by decide +kernel
theorem dX1_clause_133 : decode cX1_clause 133 = .ok (.iadd, 1) := by decide +kernel
theorem dX1_clause_134 : decode cX1_clause 134 = .ok (.putfield 44, 3) := by decide +kernel
theorem dX1_clause_137 : decode cX1_clause 137 = .ok (.iload_n 2, 1) := by decide +kernel
theorem dX1_clause_138 : decode cX1_clause 138 = .ok (.ifCond .eq 16, 3) := by decide +kernel
theorem dX1_clause_141 : decode cX1_clause 141 = .ok (.aload_n 0, 1) := by decide +kernel
theorem dX1_clause_142 : decode cX1_clause 142 = .ok (.bipush 38, 2) := by decide +kernel
theorem dX1_clause_144 : decode cX1_clause 144 = .ok (.invokevirtual 98, 3) := by decide +kernel
theorem dX1_clause_147 : decode cX1_clause 147 = .ok (.ifCond .eq 7, 3) := by decide +kernel
theorem dX1_clause_150 : decode cX1_clause 150 = .ok (.iconst 1, 1) := by decide +kernel
theorem dX1_clause_151 : decode cX1_clause 151 = .ok (.goto 4, 3) := by decide +kernel
theorem dX1_clause_154 : decode cX1_clause 154 = .ok (.iconst 0, 1) := by decide +kernel
theorem dX1_clause_155 : decode cX1_clause 155 = .ok (.ireturn, 1) := by decide +kernel
theorem dX1_readDeed_0 : decode cX1_readDeed 0 = .ok (.iload_n 1, 1) := by decide +kernel
theorem dX1_readDeed_1 : decode cX1_readDeed 1 = .ok (.tableswitch 185 2 9 #[47, 56, 94, 103, 103, 185, 139, 176], 47) := by decide +kernel
theorem dX1_readDeed_48 : decode cX1_readDeed 48 = .ok (.aload_n 0, 1) := by decide +kernel
theorem dX1_readDeed_49 : decode cX1_readDeed 49 = .ok (.iconst 1, 1) := by decide +kernel
theorem dX1_readDeed_50 : decode cX1_readDeed 50 = .ok (.iconst 1, 1) := by decide +kernel
theorem dX1_readDeed_51 : decode cX1_readDeed 51 = .ok (.bipush 9, 2) := by decide +kernel
theorem dX1_readDeed_53 : decode cX1_readDeed 53 = .ok (.invokevirtual 101, 3) := by decide +kernel
theorem dX1_readDeed_56 : decode cX1_readDeed 56 = .ok (.ireturn, 1) := by decide +kernel
theorem dX1_readDeed_57 : decode cX1_readDeed 57 = .ok (.aload_n 0, 1) := by decide +kernel
theorem dX1_readDeed_58 : decode cX1_readDeed 58 = .ok (.iconst 1, 1) := by decide +kernel
theorem dX1_readDeed_59 : decode cX1_readDeed 59 = .ok (.iconst 0, 1) := by decide +kernel
theorem dX1_readDeed_60 : decode cX1_readDeed 60 = .ok (.sipush 999, 3) := by decide +kernel
theorem dX1_readDeed_63 : decode cX1_readDeed 63 = .ok (.invokevirtual 101, 3) := by decide +kernel
theorem dX1_readDeed_66 : decode cX1_readDeed 66 = .ok (.ifCond .eq 27, 3) := by decide +kernel
theorem dX1_readDeed_69 : decode cX1_readDeed 69 = .ok (.aload_n 0, 1) := by decide +kernel
theorem dX1_readDeed_70 : decode cX1_readDeed 70 = .ok (.bipush 10, 2) := by decide +kernel
theorem dX1_readDeed_72 : decode cX1_readDeed 72 = .ok (.invokevirtual 98, 3) := by decide +kernel
theorem dX1_readDeed_75 : decode cX1_readDeed 75 = .ok (.ifCond .eq 18, 3) := by decide +kernel
theorem dX1_readDeed_78 : decode cX1_readDeed 78 = .ok (.aload_n 0, 1) := by decide +kernel
theorem dX1_readDeed_79 : decode cX1_readDeed 79 = .ok (.iconst 2, 1) := by decide +kernel
theorem dX1_readDeed_80 : decode cX1_readDeed 80 = .ok (.iconst 0, 1) := by decide +kernel
theorem dX1_readDeed_81 : decode cX1_readDeed 81 = .ok (.bipush 11, 2) := by decide +kernel
theorem dX1_readDeed_83 : decode cX1_readDeed 83 = .ok (.invokevirtual 101, 3) := by decide +kernel
theorem dX1_readDeed_86 : decode cX1_readDeed 86 = .ok (.ifCond .eq 7, 3) := by decide +kernel
theorem dX1_readDeed_89 : decode cX1_readDeed 89 = .ok (.iconst 1, 1) := by decide +kernel
theorem dX1_readDeed_90 : decode cX1_readDeed 90 = .ok (.goto 4, 3) := by decide +kernel
theorem dX1_readDeed_93 : decode cX1_readDeed 93 = .ok (.iconst 0, 1) := by decide +kernel
theorem dX1_readDeed_94 : decode cX1_readDeed 94 = .ok (.ireturn, 1) := by decide +kernel
theorem dX1_readDeed_95 : decode cX1_readDeed 95 = .ok (.aload_n 0, 1) := by decide +kernel
theorem dX1_readDeed_96 : decode cX1_readDeed 96 = .ok (.iconst 1, 1) := by decide +kernel
theorem dX1_readDeed_97 : decode cX1_readDeed 97 = .ok (.iconst 0, 1) := by decide +kernel
theorem dX1_readDeed_98 : decode cX1_readDeed 98 = .ok (.bipush 11, 2) := by decide +kernel
theorem dX1_readDeed_100 : decode cX1_readDeed 100 = .ok (.invokevirtual 101, 3) := by decide +kernel
theorem dX1_readDeed_103 : decode cX1_readDeed 103 = .ok (.ireturn, 1) := by decide +kernel
theorem dX1_readDeed_104 : decode cX1_readDeed 104 = .ok (.aload_n 0, 1) := by decide +kernel
theorem dX1_readDeed_105 : decode cX1_readDeed 105 = .ok (.iconst 1, 1) := by decide +kernel
theorem dX1_readDeed_106 : decode cX1_readDeed 106 = .ok (.iconst 0, 1) := by decide +kernel
theorem dX1_readDeed_107 : decode cX1_readDeed 107 = .ok (.bipush 11, 2) := by decide +kernel
theorem dX1_readDeed_109 : decode cX1_readDeed 109 = .ok (.invokevirtual 101, 3) := by decide +kernel
theorem dX1_readDeed_112 : decode cX1_readDeed 112 = .ok (.ifCond .eq 26, 3) := by decide +kernel
theorem dX1_readDeed_115 : decode cX1_readDeed 115 = .ok (.aload_n 0, 1) := by decide +kernel
theorem dX1_readDeed_116 : decode cX1_readDeed 116 = .ok (.bipush 11, 2) := by decide +kernel
theorem dX1_readDeed_118 : decode cX1_readDeed 118 = .ok (.invokevirtual 98, 3) := by decide +kernel
theorem dX1_readDeed_121 : decode cX1_readDeed 121 = .ok (.ifCond .eq 17, 3) := by decide +kernel
theorem dX1_readDeed_124 : decode cX1_readDeed 124 = .ok (.aload_n 0, 1) := by decide +kernel
theorem dX1_readDeed_125 : decode cX1_readDeed 125 = .ok (.iconst 2, 1) := by decide +kernel
theorem dX1_readDeed_126 : decode cX1_readDeed 126 = .ok (.iconst 0, 1) := by decide +kernel
theorem dX1_readDeed_127 : decode cX1_readDeed 127 = .ok (.iconst 3, 1) := by decide +kernel
theorem dX1_readDeed_128 : decode cX1_readDeed 128 = .ok (.invokevirtual 101, 3) := by decide +kernel
theorem dX1_readDeed_131 : decode cX1_readDeed 131 = .ok (.ifCond .eq 7, 3) := by decide +kernel
theorem dX1_readDeed_134 : decode cX1_readDeed 134 = .ok (.iconst 1, 1) := by decide +kernel
theorem dX1_readDeed_135 : decode cX1_readDeed 135 = .ok (.goto 4, 3) := by decide +kernel
theorem dX1_readDeed_138 : decode cX1_readDeed 138 = .ok (.iconst 0, 1) := by decide +kernel
theorem dX1_readDeed_139 : decode cX1_readDeed 139 = .ok (.ireturn, 1) := by decide +kernel
theorem dX1_readDeed_140 : decode cX1_readDeed 140 = .ok (.aload_n 0, 1) := by decide +kernel
theorem dX1_readDeed_141 : decode cX1_readDeed 141 = .ok (.iconst 1, 1) := by decide +kernel
theorem dX1_readDeed_142 : decode cX1_readDeed 142 = .ok (.iconst 1, 1) := by decide +kernel
theorem dX1_readDeed_143 : decode cX1_readDeed 143 = .ok (.bipush 99, 2) := by decide +kernel
theorem dX1_readDeed_145 : decode cX1_readDeed 145 = .ok (.invokevirtual 101, 3) := by decide +kernel
theorem dX1_readDeed_148 : decode cX1_readDeed 148 = .ok (.ifCond .eq 27, 3) := by decide +kernel
theorem dX1_readDeed_151 : decode cX1_readDeed 151 = .ok (.aload_n 0, 1) := by decide +kernel
theorem dX1_readDeed_152 : decode cX1_readDeed 152 = .ok (.bipush 10, 2) := by decide +kernel
theorem dX1_readDeed_154 : decode cX1_readDeed 154 = .ok (.invokevirtual 98, 3) := by decide +kernel
theorem dX1_readDeed_157 : decode cX1_readDeed 157 = .ok (.ifCond .eq 18, 3) := by decide +kernel
theorem dX1_readDeed_160 : decode cX1_readDeed 160 = .ok (.aload_n 0, 1) := by decide +kernel
theorem dX1_readDeed_161 : decode cX1_readDeed 161 = .ok (.iconst 2, 1) := by decide +kernel
theorem dX1_readDeed_162 : decode cX1_readDeed 162 = .ok (.iconst 0, 1) := by decide +kernel
theorem dX1_readDeed_163 : decode cX1_readDeed 163 = .ok (.bipush 11, 2) := by decide +kernel
theorem dX1_readDeed_165 : decode cX1_readDeed 165 = .ok (.invokevirtual 101, 3) := by decide +kernel
theorem dX1_readDeed_168 : decode cX1_readDeed 168 = .ok (.ifCond .eq 7, 3) := by decide +kernel
theorem dX1_readDeed_171 : decode cX1_readDeed 171 = .ok (.iconst 1, 1) := by decide +kernel
theorem dX1_readDeed_172 : decode cX1_readDeed 172 = .ok (.goto 4, 3) := by decide +kernel
theorem dX1_readDeed_175 : decode cX1_readDeed 175 = .ok (.iconst 0, 1) := by decide +kernel
theorem dX1_readDeed_176 : decode cX1_readDeed 176 = .ok (.ireturn, 1) := by decide +kernel
theorem dX1_readDeed_177 : decode cX1_readDeed 177 = .ok (.aload_n 0, 1) := by decide +kernel
theorem dX1_readDeed_178 : decode cX1_readDeed 178 = .ok (.iconst 1, 1) := by decide +kernel
theorem dX1_readDeed_179 : decode cX1_readDeed 179 = .ok (.iconst 1, 1) := by decide +kernel
theorem dX1_readDeed_180 : decode cX1_readDeed 180 = .ok (.bipush 60, 2) := by decide +kernel
theorem dX1_readDeed_182 : decode cX1_readDeed 182 = .ok (.invokevirtual 101, 3) := by decide +kernel
theorem dX1_readDeed_185 : decode cX1_readDeed 185 = .ok (.ireturn, 1) := by decide +kernel
theorem dX1_readDeed_186 : decode cX1_readDeed 186 = .ok (.iconst 1, 1) := by decide +kernel
theorem dX1_readDeed_187 : decode cX1_readDeed 187 = .ok (.ireturn, 1) := by decide +kernel
theorem dX1_readNumber_0 : decode cX1_readNumber 0 = .ok (.aload_n 0, 1) := by decide +kernel
theorem dX1_readNumber_1 : decode cX1_readNumber 1 = .ok (.getfield 58, 3) := by decide +kernel
theorem dX1_readNumber_4 : decode cX1_readNumber 4 = .ok (.bipush 39, 2) := by decide +kernel
theorem dX1_readNumber_6 : decode cX1_readNumber 6 = .ok (.if_icmp .eq 9, 3) := by decide +kernel
theorem dX1_readNumber_9 : decode cX1_readNumber 9 = .ok (.aload_n 0, 1) := by decide +kernel
theorem dX1_readNumber_10 : decode cX1_readNumber 10 = .ok (.iconst 1, 1) := by decide +kernel
theorem dX1_readNumber_11 : decode cX1_readNumber 11 = .ok (.invokevirtual 85, 3) := by decide +kernel
theorem dX1_readNumber_14 : decode cX1_readNumber 14 = .ok (.ireturn, 1) := by decide +kernel
theorem dX1_readNumber_15 : decode cX1_readNumber 15 = .ok (.aload_n 0, 1) := by decide +kernel
theorem dX1_readNumber_16 : decode cX1_readNumber 16 = .ok (.getfield 29, 3) := by decide +kernel
theorem dX1_readNumber_19 : decode cX1_readNumber 19 = .ok (.getfield 105, 3) := by decide +kernel
theorem dX1_readNumber_22 : decode cX1_readNumber 22 = .ok (.aload_n 0, 1) := by decide +kernel
theorem dX1_readNumber_23 : decode cX1_readNumber 23 = .ok (.getfield 52, 3) := by decide +kernel
theorem dX1_readNumber_26 : decode cX1_readNumber 26 = .ok (.iaload, 1) := by decide +kernel
theorem dX1_readNumber_27 : decode cX1_readNumber 27 = .ok (.iload_n 2, 1) := by decide +kernel
theorem dX1_readNumber_28 : decode cX1_readNumber 28 = .ok (.if_icmp .lt 19, 3) := by decide +kernel
theorem dX1_readNumber_31 : decode cX1_readNumber 31 = .ok (.aload_n 0, 1) := by decide +kernel
theorem dX1_readNumber_32 : decode cX1_readNumber 32 = .ok (.getfield 29, 3) := by decide +kernel
theorem dX1_readNumber_35 : decode cX1_readNumber 35 = .ok (.getfield 105, 3) := by decide +kernel
theorem dX1_readNumber_38 : decode cX1_readNumber 38 = .ok (.aload_n 0, 1) := by decide +kernel
theorem dX1_readNumber_39 : decode cX1_readNumber 39 = .ok (.getfield 52, 3) := by decide +kernel
theorem dX1_readNumber_42 : decode cX1_readNumber 42 = .ok (.iaload, 1) := by decide +kernel
theorem dX1_readNumber_43 : decode cX1_readNumber 43 = .ok (.iload_n 3, 1) := by decide +kernel
theorem dX1_readNumber_44 : decode cX1_readNumber 44 = .ok (.if_icmp .le 9, 3) := by decide +kernel
theorem dX1_readNumber_47 : decode cX1_readNumber 47 = .ok (.aload_n 0, 1) := by decide +kernel
theorem dX1_readNumber_48 : decode cX1_readNumber 48 = .ok (.iconst 2, 1) := by decide +kernel
theorem dX1_readNumber_49 : decode cX1_readNumber 49 = .ok (.invokevirtual 85, 3) := by decide +kernel
theorem dX1_readNumber_52 : decode cX1_readNumber 52 = .ok (.ireturn, 1) := by decide +kernel
theorem dX1_readNumber_53 : decode cX1_readNumber 53 = .ok (.aload_n 0, 1) := by decide +kernel
theorem dX1_readNumber_54 : decode cX1_readNumber 54 = .ok (.getfield 11, 3) := by decide +kernel
theorem dX1_readNumber_57 : decode cX1_readNumber 57 = .ok (.iconst 3, 1) := by decide +kernel
theorem dX1_readNumber_58 : decode cX1_readNumber 58 = .ok (.aload_n 0, 1) := by decide +kernel
theorem dX1_readNumber_59 : decode cX1_readNumber 59 = .ok (.getfield 44, 3) := by decide +kernel
theorem dX1_readNumber_62 : decode cX1_readNumber 62 = .ok (.imul, 1) := by decide +kernel
theorem dX1_readNumber_63 : decode cX1_readNumber 63 = .ok (.iload_n 1, 1) := by decide +kernel
theorem dX1_readNumber_64 : decode cX1_readNumber 64 = .ok (.iadd, 1) := by decide +kernel
theorem dX1_readNumber_65 : decode cX1_readNumber 65 = .ok (.aload_n 0, 1) := by decide +kernel
theorem dX1_readNumber_66 : decode cX1_readNumber 66 = .ok (.getfield 29, 3) := by decide +kernel
theorem dX1_readNumber_69 : decode cX1_readNumber 69 = .ok (.getfield 105, 3) := by decide +kernel
theorem dX1_readNumber_72 : decode cX1_readNumber 72 = .ok (.aload_n 0, 1) := by decide +kernel
theorem dX1_readNumber_73 : decode cX1_readNumber 73 = .ok (.getfield 52, 3) := by decide +kernel
theorem dX1_readNumber_76 : decode cX1_readNumber 76 = .ok (.iaload, 1) := by decide +kernel
theorem dX1_readNumber_77 : decode cX1_readNumber 77 = .ok (.iastore, 1) := by decide +kernel
theorem dX1_readNumber_78 : decode cX1_readNumber 78 = .ok (.aload_n 0, 1) := by decide +kernel
theorem dX1_readNumber_79 : decode cX1_readNumber 79 = .ok (.invokevirtual 89, 3) := by decide +kernel
theorem dX1_readNumber_82 : decode cX1_readNumber 82 = .ok (.iconst 1, 1) := by decide +kernel
theorem dX1_readNumber_83 : decode cX1_readNumber 83 = .ok (.ireturn, 1) := by decide +kernel
theorem dX1_readLaw_0 : decode cX1_readLaw 0 = .ok (.aload_n 0, 1) := by decide +kernel
theorem dX1_readLaw_1 : decode cX1_readLaw 1 = .ok (.iconst 0, 1) := by decide +kernel
theorem dX1_readLaw_2 : decode cX1_readLaw 2 = .ok (.putfield 108, 3) := by decide +kernel
theorem dX1_readLaw_5 : decode cX1_readLaw 5 = .ok (.aload_n 0, 1) := by decide +kernel
theorem dX1_readLaw_6 : decode cX1_readLaw 6 = .ok (.iload_n 1, 1) := by decide +kernel
theorem dX1_readLaw_7 : decode cX1_readLaw 7 = .ok (.iconst 0, 1) := by decide +kernel
theorem dX1_readLaw_8 : decode cX1_readLaw 8 = .ok (.invokevirtual 111, 3) := by decide +kernel
theorem dX1_readLaw_11 : decode cX1_readLaw 11 = .ok (.ifCond .ne 5, 3) := by decide +kernel
theorem dX1_readLaw_14 : decode cX1_readLaw 14 = .ok (.iconst 0, 1) := by decide +kernel
theorem dX1_readLaw_15 : decode cX1_readLaw 15 = .ok (.ireturn, 1) := by decide +kernel
theorem dX1_readLaw_16 : decode cX1_readLaw 16 = .ok (.aload_n 0, 1) := by decide +kernel
theorem dX1_readLaw_17 : decode cX1_readLaw 17 = .ok (.getfield 15, 3) := by decide +kernel
theorem dX1_readLaw_20 : decode cX1_readLaw 20 = .ok (.aload_n 0, 1) := by decide +kernel
theorem dX1_readLaw_21 : decode cX1_readLaw 21 = .ok (.getfield 108, 3) := by decide +kernel
theorem dX1_readLaw_24 : decode cX1_readLaw 24 = .ok (.invokestatic 70, 3) := by decide +kernel
theorem dX1_readLaw_27 : decode cX1_readLaw 27 = .ok (.astore_n 2, 1) := by decide +kernel
theorem dX1_readLaw_28 : decode cX1_readLaw 28 = .ok (.iload_n 1, 1) := by decide +kernel
theorem dX1_readLaw_29 : decode cX1_readLaw 29 = .ok (.ifCond .ne 11, 3) := by decide +kernel
theorem dX1_readLaw_32 : decode cX1_readLaw 32 = .ok (.aload_n 0, 1) := by decide +kernel
theorem dX1_readLaw_33 : decode cX1_readLaw 33 = .ok (.aload_n 2, 1) := by decide +kernel
theorem dX1_readLaw_34 : decode cX1_readLaw 34 = .ok (.putfield 23, 3) := by decide +kernel
theorem dX1_readLaw_37 : decode cX1_readLaw 37 = .ok (.goto 8, 3) := by decide +kernel
theorem dX1_readLaw_40 : decode cX1_readLaw 40 = .ok (.aload_n 0, 1) := by decide +kernel
theorem dX1_readLaw_41 : decode cX1_readLaw 41 = .ok (.aload_n 2, 1) := by decide +kernel
theorem dX1_readLaw_42 : decode cX1_readLaw 42 = .ok (.putfield 26, 3) := by decide +kernel
theorem dX1_readLaw_45 : decode cX1_readLaw 45 = .ok (.iconst 1, 1) := by decide +kernel
theorem dX1_readLaw_46 : decode cX1_readLaw 46 = .ok (.ireturn, 1) := by decide +kernel
theorem dX1_add_0 : decode cX1_add 0 = .ok (.aload_n 0, 1) := by decide +kernel
theorem dX1_add_1 : decode cX1_add 1 = .ok (.getfield 108, 3) := by decide +kernel
theorem dX1_add_4 : decode cX1_add 4 = .ok (.aload_n 0, 1) := by decide +kernel
theorem dX1_add_5 : decode cX1_add 5 = .ok (.getfield 15, 3) := by decide +kernel
theorem dX1_add_8 : decode cX1_add 8 = .ok (.arraylength, 1) := by decide +kernel
theorem dX1_add_9 : decode cX1_add 9 = .ok (.if_icmp .ge 28, 3) := by decide +kernel
theorem dX1_add_12 : decode cX1_add 12 = .ok (.aload_n 0, 1) := by decide +kernel
theorem dX1_add_13 : decode cX1_add 13 = .ok (.getfield 15, 3) := by decide +kernel
theorem dX1_add_16 : decode cX1_add 16 = .ok (.aload_n 0, 1) := by decide +kernel
theorem dX1_add_17 : decode cX1_add 17 = .ok (.getfield 108, 3) := by decide +kernel
theorem dX1_add_20 : decode cX1_add 20 = .ok (.iload_n 2, 1) := by decide +kernel
theorem dX1_add_21 : decode cX1_add 21 = .ok (.bipush 64, 2) := by decide +kernel
theorem dX1_add_23 : decode cX1_add 23 = .ok (.imul, 1) := by decide +kernel
theorem dX1_add_24 : decode cX1_add 24 = .ok (.iload_n 1, 1) := by decide +kernel
theorem dX1_add_25 : decode cX1_add 25 = .ok (.iadd, 1) := by decide +kernel
theorem dX1_add_26 : decode cX1_add 26 = .ok (.iastore, 1) := by decide +kernel
theorem dX1_add_27 : decode cX1_add 27 = .ok (.aload_n 0, 1) := by decide +kernel
theorem dX1_add_28 : decode cX1_add 28 = .ok (.dup, 1) := by decide +kernel
theorem dX1_add_29 : decode cX1_add 29 = .ok (.getfield 108, 3) := by decide +kernel
theorem dX1_add_32 : decode cX1_add 32 = .ok (.iconst 1, 1) := by decide +kernel
theorem dX1_add_33 : decode cX1_add 33 = .ok (.iadd, 1) := by decide +kernel
theorem dX1_add_34 : decode cX1_add 34 = .ok (.putfield 108, 3) := by decide +kernel
theorem dX1_add_37 : decode cX1_add 37 = .ok (.return_, 1) := by decide +kernel
theorem dX1_land_0 : decode cX1_land 0 = .ok (.iload_n 1, 1) := by decide +kernel
theorem dX1_land_1 : decode cX1_land 1 = .ok (.aload_n 0, 1) := by decide +kernel
theorem dX1_land_2 : decode cX1_land 2 = .ok (.getfield 15, 3) := by decide +kernel
theorem dX1_land_5 : decode cX1_land 5 = .ok (.arraylength, 1) := by decide +kernel
theorem dX1_land_6 : decode cX1_land 6 = .ok (.if_icmp .ge 18, 3) := by decide +kernel
theorem dX1_land_9 : decode cX1_land 9 = .ok (.aload_n 0, 1) := by decide +kernel
theorem dX1_land_10 : decode cX1_land 10 = .ok (.getfield 15, 3) := by decide +kernel
theorem dX1_land_13 : decode cX1_land 13 = .ok (.iload_n 1, 1) := by decide +kernel
theorem dX1_land_14 : decode cX1_land 14 = .ok (.aload_n 0, 1) := by decide +kernel
theorem dX1_land_15 : decode cX1_land 15 = .ok (.getfield 108, 3) := by decide +kernel
theorem dX1_land_18 : decode cX1_land 18 = .ok (.bipush 64, 2) := by decide +kernel
theorem dX1_land_20 : decode cX1_land 20 = .ok (.imul, 1) := by decide +kernel
theorem dX1_land_21 : decode cX1_land 21 = .ok (.iload_n 2, 1) := by decide +kernel
theorem dX1_land_22 : decode cX1_land 22 = .ok (.iadd, 1) := by decide +kernel
theorem dX1_land_23 : decode cX1_land 23 = .ok (.iastore, 1) := by decide +kernel
theorem dX1_land_24 : decode cX1_land 24 = .ok (.return_, 1) := by decide +kernel
theorem dX1_sum_0 : decode cX1_sum 0 = .ok (.aload_n 0, 1) := by decide +kernel
theorem dX1_sum_1 : decode cX1_sum 1 = .ok (.iload_n 1, 1) := by decide +kernel
theorem dX1_sum_2 : decode cX1_sum 2 = .ok (.iload_n 2, 1) := by decide +kernel
theorem dX1_sum_3 : decode cX1_sum 3 = .ok (.invokevirtual 115, 3) := by decide +kernel
theorem dX1_sum_6 : decode cX1_sum 6 = .ok (.istore_n 3, 1) := by decide +kernel
theorem dX1_sum_7 : decode cX1_sum 7 = .ok (.iconst 0, 1) := by decide +kernel
theorem dX1_sum_8 : decode cX1_sum 8 = .ok (.istore 4, 2) := by decide +kernel
theorem dX1_sum_10 : decode cX1_sum 10 = .ok (.iload 4, 2) := by decide +kernel
theorem dX1_sum_12 : decode cX1_sum 12 = .ok (.sipush 300, 3) := by decide +kernel
theorem dX1_sum_15 : decode cX1_sum 15 = .ok (.if_icmp .ge 55, 3) := by decide +kernel
theorem dX1_sum_18 : decode cX1_sum 18 = .ok (.iload_n 3, 1) := by decide +kernel
theorem dX1_sum_19 : decode cX1_sum 19 = .ok (.ifCond .eq 51, 3) := by decide +kernel
theorem dX1_sum_22 : decode cX1_sum 22 = .ok (.aload_n 0, 1) := by decide +kernel
theorem dX1_sum_23 : decode cX1_sum 23 = .ok (.getfield 58, 3) := by decide +kernel
theorem dX1_sum_26 : decode cX1_sum 26 = .ok (.bipush 32, 2) := by decide +kernel
theorem dX1_sum_28 : decode cX1_sum 28 = .ok (.if_icmp .eq 12, 3) := by decide +kernel
theorem dX1_sum_31 : decode cX1_sum 31 = .ok (.aload_n 0, 1) := by decide +kernel
theorem dX1_sum_32 : decode cX1_sum 32 = .ok (.getfield 58, 3) := by decide +kernel
theorem dX1_sum_35 : decode cX1_sum 35 = .ok (.bipush 33, 2) := by decide +kernel
theorem dX1_sum_37 : decode cX1_sum 37 = .ok (.if_icmp .ne 33, 3) := by decide +kernel
theorem dX1_sum_40 : decode cX1_sum 40 = .ok (.aload_n 0, 1) := by decide +kernel
theorem dX1_sum_41 : decode cX1_sum 41 = .ok (.getfield 58, 3) := by decide +kernel
theorem dX1_sum_44 : decode cX1_sum 44 = .ok (.istore 5, 2) := by decide +kernel
theorem dX1_sum_46 : decode cX1_sum 46 = .ok (.aload_n 0, 1) := by decide +kernel
theorem dX1_sum_47 : decode cX1_sum 47 = .ok (.invokevirtual 89, 3) := by decide +kernel
theorem dX1_sum_50 : decode cX1_sum 50 = .ok (.aload_n 0, 1) := by decide +kernel
theorem dX1_sum_51 : decode cX1_sum 51 = .ok (.iload_n 1, 1) := by decide +kernel
theorem dX1_sum_52 : decode cX1_sum 52 = .ok (.iload_n 2, 1) := by decide +kernel
theorem dX1_sum_53 : decode cX1_sum 53 = .ok (.invokevirtual 115, 3) := by decide +kernel
theorem dX1_sum_56 : decode cX1_sum 56 = .ok (.istore_n 3, 1) := by decide +kernel
theorem dX1_sum_57 : decode cX1_sum 57 = .ok (.aload_n 0, 1) := by decide +kernel
theorem dX1_sum_58 : decode cX1_sum 58 = .ok (.iload 5, 2) := by decide +kernel
theorem dX1_sum_60 : decode cX1_sum 60 = .ok (.iconst 0, 1) := by decide +kernel
theorem dX1_sum_61 : decode cX1_sum 61 = .ok (.invokevirtual 118, 3) := by decide +kernel
theorem dX1_sum_64 : decode cX1_sum 64 = .ok (.iinc 4 1, 3) := by decide +kernel
theorem dX1_sum_67 : decode cX1_sum 67 = .ok (.goto (-57), 3) := by decide +kernel
theorem dX1_sum_70 : decode cX1_sum 70 = .ok (.iload_n 3, 1) := by decide +kernel
theorem dX1_sum_71 : decode cX1_sum 71 = .ok (.ireturn, 1) := by decide +kernel
theorem dX1_product_0 : decode cX1_product 0 = .ok (.aload_n 0, 1) := by decide +kernel
theorem dX1_product_1 : decode cX1_product 1 = .ok (.iload_n 1, 1) := by decide +kernel
theorem dX1_product_2 : decode cX1_product 2 = .ok (.iload_n 2, 1) := by decide +kernel
theorem dX1_product_3 : decode cX1_product 3 = .ok (.invokevirtual 122, 3) := by decide +kernel
theorem dX1_product_6 : decode cX1_product 6 = .ok (.istore_n 3, 1) := by decide +kernel
theorem dX1_product_7 : decode cX1_product 7 = .ok (.iconst 0, 1) := by decide +kernel
theorem dX1_product_8 : decode cX1_product 8 = .ok (.istore 4, 2) := by decide +kernel
theorem dX1_product_10 : decode cX1_product 10 = .ok (.iload 4, 2) := by decide +kernel
theorem dX1_product_12 : decode cX1_product 12 = .ok (.sipush 300, 3) := by decide +kernel
theorem dX1_product_15 : decode cX1_product 15 = .ok (.if_icmp .ge 55, 3) := by decide +kernel
theorem dX1_product_18 : decode cX1_product 18 = .ok (.iload_n 3, 1) := by decide +kernel
theorem dX1_product_19 : decode cX1_product 19 = .ok (.ifCond .eq 51, 3) := by decide +kernel
theorem dX1_product_22 : decode cX1_product 22 = .ok (.aload_n 0, 1) := by decide +kernel
theorem dX1_product_23 : decode cX1_product 23 = .ok (.getfield 58, 3) := by decide +kernel
theorem dX1_product_26 : decode cX1_product 26 = .ok (.bipush 34, 2) := by decide +kernel
theorem dX1_product_28 : decode cX1_product 28 = .ok (.if_icmp .eq 12, 3) := by decide +kernel
theorem dX1_product_31 : decode cX1_product 31 = .ok (.aload_n 0, 1) := by decide +kernel
theorem dX1_product_32 : decode cX1_product 32 = .ok (.getfield 58, 3) := by decide +kernel
theorem dX1_product_35 : decode cX1_product 35 = .ok (.bipush 35, 2) := by decide +kernel
theorem dX1_product_37 : decode cX1_product 37 = .ok (.if_icmp .ne 33, 3) := by decide +kernel
theorem dX1_product_40 : decode cX1_product 40 = .ok (.aload_n 0, 1) := by decide +kernel
theorem dX1_product_41 : decode cX1_product 41 = .ok (.getfield 58, 3) := by decide +kernel
theorem dX1_product_44 : decode cX1_product 44 = .ok (.istore 5, 2) := by decide +kernel
theorem dX1_product_46 : decode cX1_product 46 = .ok (.aload_n 0, 1) := by decide +kernel
theorem dX1_product_47 : decode cX1_product 47 = .ok (.invokevirtual 89, 3) := by decide +kernel
theorem dX1_product_50 : decode cX1_product 50 = .ok (.aload_n 0, 1) := by decide +kernel
theorem dX1_product_51 : decode cX1_product 51 = .ok (.iload_n 1, 1) := by decide +kernel
theorem dX1_product_52 : decode cX1_product 52 = .ok (.iload_n 2, 1) := by decide +kernel
theorem dX1_product_53 : decode cX1_product 53 = .ok (.invokevirtual 122, 3) := by decide +kernel
theorem dX1_product_56 : decode cX1_product 56 = .ok (.istore_n 3, 1) := by decide +kernel
theorem dX1_product_57 : decode cX1_product 57 = .ok (.aload_n 0, 1) := by decide +kernel
theorem dX1_product_58 : decode cX1_product 58 = .ok (.iload 5, 2) := by decide +kernel
theorem dX1_product_60 : decode cX1_product 60 = .ok (.iconst 0, 1) := by decide +kernel
theorem dX1_product_61 : decode cX1_product 61 = .ok (.invokevirtual 118, 3) := by decide +kernel
theorem dX1_product_64 : decode cX1_product 64 = .ok (.iinc 4 1, 3) := by decide +kernel
theorem dX1_product_67 : decode cX1_product 67 = .ok (.goto (-57), 3) := by decide +kernel
theorem dX1_product_70 : decode cX1_product 70 = .ok (.iload_n 3, 1) := by decide +kernel
theorem dX1_product_71 : decode cX1_product 71 = .ok (.ireturn, 1) := by decide +kernel
theorem dX1_one_0 : decode cX1_one 0 = .ok (.aload_n 0, 1) := by decide +kernel
theorem dX1_one_1 : decode cX1_one 1 = .ok (.getfield 58, 3) := by decide +kernel
theorem dX1_one_4 : decode cX1_one 4 = .ok (.istore_n 3, 1) := by decide +kernel
theorem dX1_one_5 : decode cX1_one 5 = .ok (.iload_n 3, 1) := by decide +kernel
theorem dX1_one_6 : decode cX1_one 6 = .ok (.tableswitch 331 3 39 #[206, 331, 331, 213, 331, 331, 206, 331, 331, 331, 331, 331, 266, 206, 206, 213, 213, 213, 331, 291, 291, 331, 331, 331, 331, 331, 331, 331, 331, 331, 291, 331, 331, 232, 331, 331, 162], 162) := by decide +kernel
theorem dX1_one_168 : decode cX1_one 168 = .ok (.aload_n 0, 1) := by decide +kernel
theorem dX1_one_169 : decode cX1_one 169 = .ok (.getfield 29, 3) := by decide +kernel
theorem dX1_one_172 : decode cX1_one 172 = .ok (.getfield 105, 3) := by decide +kernel
theorem dX1_one_175 : decode cX1_one 175 = .ok (.aload_n 0, 1) := by decide +kernel
theorem dX1_one_176 : decode cX1_one 176 = .ok (.getfield 52, 3) := by decide +kernel
theorem dX1_one_179 : decode cX1_one 179 = .ok (.iaload, 1) := by decide +kernel
theorem dX1_one_180 : decode cX1_one 180 = .ok (.sipush 9999, 3) := by decide +kernel
theorem dX1_one_183 : decode cX1_one 183 = .ok (.if_icmp .le 11, 3) := by decide +kernel
theorem dX1_one_186 : decode cX1_one 186 = .ok (.aload_n 0, 1) := by decide +kernel
theorem dX1_one_187 : decode cX1_one 187 = .ok (.iconst 2, 1) := by decide +kernel
theorem dX1_one_188 : decode cX1_one 188 = .ok (.invokevirtual 85, 3) := by decide +kernel
theorem dX1_one_191 : decode cX1_one 191 = .ok (.goto 20, 3) := by decide +kernel
theorem dX1_one_194 : decode cX1_one 194 = .ok (.aload_n 0, 1) := by decide +kernel
theorem dX1_one_195 : decode cX1_one 195 = .ok (.iload_n 3, 1) := by decide +kernel
theorem dX1_one_196 : decode cX1_one 196 = .ok (.aload_n 0, 1) := by decide +kernel
theorem dX1_one_197 : decode cX1_one 197 = .ok (.getfield 29, 3) := by decide +kernel
theorem dX1_one_200 : decode cX1_one 200 = .ok (.getfield 105, 3) := by decide +kernel
theorem dX1_one_203 : decode cX1_one 203 = .ok (.aload_n 0, 1) := by decide +kernel
theorem dX1_one_204 : decode cX1_one 204 = .ok (.getfield 52, 3) := by decide +kernel
theorem dX1_one_207 : decode cX1_one 207 = .ok (.iaload, 1) := by decide +kernel
theorem dX1_one_208 : decode cX1_one 208 = .ok (.invokevirtual 125, 3) := by decide +kernel
theorem dX1_one_211 : decode cX1_one 211 = .ok (.ireturn, 1) := by decide +kernel
theorem dX1_one_212 : decode cX1_one 212 = .ok (.aload_n 0, 1) := by decide +kernel
theorem dX1_one_213 : decode cX1_one 213 = .ok (.iload_n 3, 1) := by decide +kernel
theorem dX1_one_214 : decode cX1_one 214 = .ok (.iconst 0, 1) := by decide +kernel
theorem dX1_one_215 : decode cX1_one 215 = .ok (.invokevirtual 125, 3) := by decide +kernel
theorem dX1_one_218 : decode cX1_one 218 = .ok (.ireturn, 1) := by decide +kernel
theorem dX1_one_219 : decode cX1_one 219 = .ok (.iload_n 1, 1) := by decide +kernel
theorem dX1_one_220 : decode cX1_one 220 = .ok (.ifCond .ne 12, 3) := by decide +kernel
theorem dX1_one_223 : decode cX1_one 223 = .ok (.aload_n 0, 1) := by decide +kernel
theorem dX1_one_224 : decode cX1_one 224 = .ok (.iload_n 3, 1) := by decide +kernel
theorem dX1_one_225 : decode cX1_one 225 = .ok (.iconst 0, 1) := by decide +kernel
theorem dX1_one_226 : decode cX1_one 226 = .ok (.invokevirtual 125, 3) := by decide +kernel
theorem dX1_one_229 : decode cX1_one 229 = .ok (.goto 8, 3) := by decide +kernel
theorem dX1_one_232 : decode cX1_one 232 = .ok (.aload_n 0, 1) := by decide +kernel
theorem dX1_one_233 : decode cX1_one 233 = .ok (.iconst 5, 1) := by decide +kernel
theorem dX1_one_234 : decode cX1_one 234 = .ok (.invokevirtual 85, 3) := by decide +kernel
theorem dX1_one_237 : decode cX1_one 237 = .ok (.ireturn, 1) := by decide +kernel
theorem dX1_one_238 : decode cX1_one 238 = .ok (.aload_n 0, 1) := by decide +kernel
theorem dX1_one_239 : decode cX1_one 239 = .ok (.iload_n 2, 1) := by decide +kernel
theorem dX1_one_240 : decode cX1_one 240 = .ok (.invokevirtual 128, 3) := by decide +kernel
theorem dX1_one_243 : decode cX1_one 243 = .ok (.ifCond .eq 27, 3) := by decide +kernel
theorem dX1_one_246 : decode cX1_one 246 = .ok (.aload_n 0, 1) := by decide +kernel
theorem dX1_one_247 : decode cX1_one 247 = .ok (.iload_n 1, 1) := by decide +kernel
theorem dX1_one_248 : decode cX1_one 248 = .ok (.iload_n 2, 1) := by decide +kernel
theorem dX1_one_249 : decode cX1_one 249 = .ok (.iconst 1, 1) := by decide +kernel
theorem dX1_one_250 : decode cX1_one 250 = .ok (.iadd, 1) := by decide +kernel
theorem dX1_one_251 : decode cX1_one 251 = .ok (.invokevirtual 111, 3) := by decide +kernel
theorem dX1_one_254 : decode cX1_one 254 = .ok (.ifCond .eq 16, 3) := by decide +kernel
theorem dX1_one_257 : decode cX1_one 257 = .ok (.aload_n 0, 1) := by decide +kernel
theorem dX1_one_258 : decode cX1_one 258 = .ok (.bipush 37, 2) := by decide +kernel
theorem dX1_one_260 : decode cX1_one 260 = .ok (.invokevirtual 98, 3) := by decide +kernel
theorem dX1_one_263 : decode cX1_one 263 = .ok (.ifCond .eq 7, 3) := by decide +kernel
theorem dX1_one_266 : decode cX1_one 266 = .ok (.iconst 1, 1) := by decide +kernel
theorem dX1_one_267 : decode cX1_one 267 = .ok (.goto 4, 3) := by decide +kernel
theorem dX1_one_270 : decode cX1_one 270 = .ok (.iconst 0, 1) := by decide +kernel
theorem dX1_one_271 : decode cX1_one 271 = .ok (.ireturn, 1) := by decide +kernel
theorem dX1_one_272 : decode cX1_one 272 = .ok (.aload_n 0, 1) := by decide +kernel
theorem dX1_one_273 : decode cX1_one 273 = .ok (.iload_n 2, 1) := by decide +kernel
theorem dX1_one_274 : decode cX1_one 274 = .ok (.invokevirtual 128, 3) := by decide +kernel
theorem dX1_one_277 : decode cX1_one 277 = .ok (.ifCond .eq 18, 3) := by decide +kernel
theorem dX1_one_280 : decode cX1_one 280 = .ok (.aload_n 0, 1) := by decide +kernel
theorem dX1_one_281 : decode cX1_one 281 = .ok (.iload_n 1, 1) := by decide +kernel
theorem dX1_one_282 : decode cX1_one 282 = .ok (.iload_n 2, 1) := by decide +kernel
theorem dX1_one_283 : decode cX1_one 283 = .ok (.iconst 1, 1) := by decide +kernel
theorem dX1_one_284 : decode cX1_one 284 = .ok (.iadd, 1) := by decide +kernel
theorem dX1_one_285 : decode cX1_one 285 = .ok (.invokevirtual 131, 3) := by decide +kernel
theorem dX1_one_288 : decode cX1_one 288 = .ok (.ifCond .eq 7, 3) := by decide +kernel
theorem dX1_one_291 : decode cX1_one 291 = .ok (.iconst 1, 1) := by decide +kernel
theorem dX1_one_292 : decode cX1_one 292 = .ok (.goto 4, 3) := by decide +kernel
theorem dX1_one_295 : decode cX1_one 295 = .ok (.iconst 0, 1) := by decide +kernel
theorem dX1_one_296 : decode cX1_one 296 = .ok (.ireturn, 1) := by decide +kernel
theorem dX1_one_297 : decode cX1_one 297 = .ok (.aload_n 0, 1) := by decide +kernel
theorem dX1_one_298 : decode cX1_one 298 = .ok (.iload_n 2, 1) := by decide +kernel
theorem dX1_one_299 : decode cX1_one 299 = .ok (.invokevirtual 128, 3) := by decide +kernel
theorem dX1_one_302 : decode cX1_one 302 = .ok (.ifCond .eq 14, 3) := by decide +kernel
theorem dX1_one_305 : decode cX1_one 305 = .ok (.aload_n 0, 1) := by decide +kernel
theorem dX1_one_306 : decode cX1_one 306 = .ok (.iload_n 1, 1) := by decide +kernel
theorem dX1_one_307 : decode cX1_one 307 = .ok (.iload_n 2, 1) := by decide +kernel
theorem dX1_one_308 : decode cX1_one 308 = .ok (.iconst 1, 1) := by decide +kernel
theorem dX1_one_309 : decode cX1_one 309 = .ok (.iadd, 1) := by decide +kernel
theorem dX1_one_310 : decode cX1_one 310 = .ok (.invokevirtual 122, 3) := by decide +kernel
theorem dX1_one_313 : decode cX1_one 313 = .ok (.ifCond .ne 5, 3) := by decide +kernel
theorem dX1_one_316 : decode cX1_one 316 = .ok (.iconst 0, 1) := by decide +kernel
theorem dX1_one_317 : decode cX1_one 317 = .ok (.ireturn, 1) := by decide +kernel
theorem dX1_one_318 : decode cX1_one 318 = .ok (.aload_n 0, 1) := by decide +kernel
theorem dX1_one_319 : decode cX1_one 319 = .ok (.iload_n 3, 1) := by decide +kernel
theorem dX1_one_320 : decode cX1_one 320 = .ok (.bipush 33, 2) := by decide +kernel
theorem dX1_one_322 : decode cX1_one 322 = .ok (.if_icmp .ne 8, 3) := by decide +kernel
theorem dX1_one_325 : decode cX1_one 325 = .ok (.bipush 42, 2) := by decide +kernel
theorem dX1_one_327 : decode cX1_one 327 = .ok (.goto 4, 3) := by decide +kernel
theorem dX1_one_330 : decode cX1_one 330 = .ok (.iload_n 3, 1) := by decide +kernel
theorem dX1_one_331 : decode cX1_one 331 = .ok (.iconst 0, 1) := by decide +kernel
theorem dX1_one_332 : decode cX1_one 332 = .ok (.invokevirtual 118, 3) := by decide +kernel
theorem dX1_one_335 : decode cX1_one 335 = .ok (.iconst 1, 1) := by decide +kernel
theorem dX1_one_336 : decode cX1_one 336 = .ok (.ireturn, 1) := by decide +kernel
theorem dX1_one_337 : decode cX1_one 337 = .ok (.aload_n 0, 1) := by decide +kernel
theorem dX1_one_338 : decode cX1_one 338 = .ok (.iconst 1, 1) := by decide +kernel
theorem dX1_one_339 : decode cX1_one 339 = .ok (.invokevirtual 85, 3) := by decide +kernel
theorem dX1_one_342 : decode cX1_one 342 = .ok (.ireturn, 1) := by decide +kernel
theorem dX1_adds_0 : decode cX1_adds 0 = .ok (.aload_n 0, 1) := by decide +kernel
theorem dX1_adds_1 : decode cX1_adds 1 = .ok (.iload_n 1, 1) := by decide +kernel
theorem dX1_adds_2 : decode cX1_adds 2 = .ok (.iload_n 2, 1) := by decide +kernel
theorem dX1_adds_3 : decode cX1_adds 3 = .ok (.invokevirtual 118, 3) := by decide +kernel
theorem dX1_adds_6 : decode cX1_adds 6 = .ok (.aload_n 0, 1) := by decide +kernel
theorem dX1_adds_7 : decode cX1_adds 7 = .ok (.invokevirtual 89, 3) := by decide +kernel
theorem dX1_adds_10 : decode cX1_adds 10 = .ok (.iconst 1, 1) := by decide +kernel
theorem dX1_adds_11 : decode cX1_adds 11 = .ok (.ireturn, 1) := by decide +kernel
theorem dX1_opens_0 : decode cX1_opens 0 = .ok (.iload_n 1, 1) := by decide +kernel
theorem dX1_opens_1 : decode cX1_opens 1 = .ok (.bipush 8, 2) := by decide +kernel
theorem dX1_opens_3 : decode cX1_opens 3 = .ok (.if_icmp .lt 9, 3) := by decide +kernel
theorem dX1_opens_6 : decode cX1_opens 6 = .ok (.aload_n 0, 1) := by decide +kernel
theorem dX1_opens_7 : decode cX1_opens 7 = .ok (.iconst 3, 1) := by decide +kernel
theorem dX1_opens_8 : decode cX1_opens 8 = .ok (.invokevirtual 85, 3) := by decide +kernel
theorem dX1_opens_11 : decode cX1_opens 11 = .ok (.ireturn, 1) := by decide +kernel
theorem dX1_opens_12 : decode cX1_opens 12 = .ok (.aload_n 0, 1) := by decide +kernel
theorem dX1_opens_13 : decode cX1_opens 13 = .ok (.invokevirtual 89, 3) := by decide +kernel
theorem dX1_opens_16 : decode cX1_opens 16 = .ok (.iconst 1, 1) := by decide +kernel
theorem dX1_opens_17 : decode cX1_opens 17 = .ok (.ireturn, 1) := by decide +kernel
theorem dX1_choice_0 : decode cX1_choice 0 = .ok (.aload_n 0, 1) := by decide +kernel
theorem dX1_choice_1 : decode cX1_choice 1 = .ok (.iload_n 1, 1) := by decide +kernel
theorem dX1_choice_2 : decode cX1_choice 2 = .ok (.iload_n 2, 1) := by decide +kernel
theorem dX1_choice_3 : decode cX1_choice 3 = .ok (.invokevirtual 134, 3) := by decide +kernel
theorem dX1_choice_6 : decode cX1_choice 6 = .ok (.ifCond .eq 12, 3) := by decide +kernel
theorem dX1_choice_9 : decode cX1_choice 9 = .ok (.aload_n 0, 1) := by decide +kernel
theorem dX1_choice_10 : decode cX1_choice 10 = .ok (.bipush 12, 2) := by decide +kernel
theorem dX1_choice_12 : decode cX1_choice 12 = .ok (.invokevirtual 98, 3) := by decide +kernel
theorem dX1_choice_15 : decode cX1_choice 15 = .ok (.ifCond .ne 5, 3) := by decide +kernel
theorem dX1_choice_18 : decode cX1_choice 18 = .ok (.iconst 0, 1) := by decide +kernel
theorem dX1_choice_19 : decode cX1_choice 19 = .ok (.ireturn, 1) := by decide +kernel
theorem dX1_choice_20 : decode cX1_choice 20 = .ok (.aload_n 0, 1) := by decide +kernel
theorem dX1_choice_21 : decode cX1_choice 21 = .ok (.getfield 108, 3) := by decide +kernel
theorem dX1_choice_24 : decode cX1_choice 24 = .ok (.istore_n 3, 1) := by decide +kernel
theorem dX1_choice_25 : decode cX1_choice 25 = .ok (.aload_n 0, 1) := by decide +kernel
theorem dX1_choice_26 : decode cX1_choice 26 = .ok (.bipush 43, 2) := by decide +kernel
theorem dX1_choice_28 : decode cX1_choice 28 = .ok (.iconst 0, 1) := by decide +kernel
theorem dX1_choice_29 : decode cX1_choice 29 = .ok (.invokevirtual 118, 3) := by decide +kernel
theorem dX1_choice_32 : decode cX1_choice 32 = .ok (.aload_n 0, 1) := by decide +kernel
theorem dX1_choice_33 : decode cX1_choice 33 = .ok (.iload_n 1, 1) := by decide +kernel
theorem dX1_choice_34 : decode cX1_choice 34 = .ok (.iload_n 2, 1) := by decide +kernel
theorem dX1_choice_35 : decode cX1_choice 35 = .ok (.invokevirtual 111, 3) := by decide +kernel
theorem dX1_choice_38 : decode cX1_choice 38 = .ok (.ifCond .eq 12, 3) := by decide +kernel
theorem dX1_choice_41 : decode cX1_choice 41 = .ok (.aload_n 0, 1) := by decide +kernel
theorem dX1_choice_42 : decode cX1_choice 42 = .ok (.bipush 13, 2) := by decide +kernel
theorem dX1_choice_44 : decode cX1_choice 44 = .ok (.invokevirtual 98, 3) := by decide +kernel
theorem dX1_choice_47 : decode cX1_choice 47 = .ok (.ifCond .ne 5, 3) := by decide +kernel
theorem dX1_choice_50 : decode cX1_choice 50 = .ok (.iconst 0, 1) := by decide +kernel
theorem dX1_choice_51 : decode cX1_choice 51 = .ok (.ireturn, 1) := by decide +kernel
theorem dX1_choice_52 : decode cX1_choice 52 = .ok (.aload_n 0, 1) := by decide +kernel
theorem dX1_choice_53 : decode cX1_choice 53 = .ok (.getfield 108, 3) := by decide +kernel
theorem dX1_choice_56 : decode cX1_choice 56 = .ok (.istore 4, 2) := by decide +kernel
theorem dX1_choice_58 : decode cX1_choice 58 = .ok (.aload_n 0, 1) := by decide +kernel
theorem dX1_choice_59 : decode cX1_choice 59 = .ok (.bipush 44, 2) := by decide +kernel
theorem dX1_choice_61 : decode cX1_choice 61 = .ok (.iconst 0, 1) := by decide +kernel
theorem dX1_choice_62 : decode cX1_choice 62 = .ok (.invokevirtual 118, 3) := by decide +kernel
theorem dX1_choice_65 : decode cX1_choice 65 = .ok (.aload_n 0, 1) := by decide +kernel
theorem dX1_choice_66 : decode cX1_choice 66 = .ok (.iload_n 3, 1) := by decide +kernel
theorem dX1_choice_67 : decode cX1_choice 67 = .ok (.bipush 43, 2) := by decide +kernel
theorem dX1_choice_69 : decode cX1_choice 69 = .ok (.invokevirtual 137, 3) := by decide +kernel
theorem dX1_choice_72 : decode cX1_choice 72 = .ok (.aload_n 0, 1) := by decide +kernel
theorem dX1_choice_73 : decode cX1_choice 73 = .ok (.iload_n 1, 1) := by decide +kernel
theorem dX1_choice_74 : decode cX1_choice 74 = .ok (.iload_n 2, 1) := by decide +kernel
theorem dX1_choice_75 : decode cX1_choice 75 = .ok (.invokevirtual 111, 3) := by decide +kernel
theorem dX1_choice_78 : decode cX1_choice 78 = .ok (.ifCond .eq 12, 3) := by decide +kernel
theorem dX1_choice_81 : decode cX1_choice 81 = .ok (.aload_n 0, 1) := by decide +kernel
theorem dX1_choice_82 : decode cX1_choice 82 = .ok (.bipush 14, 2) := by decide +kernel
theorem dX1_choice_84 : decode cX1_choice 84 = .ok (.invokevirtual 98, 3) := by decide +kernel
theorem dX1_choice_87 : decode cX1_choice 87 = .ok (.ifCond .ne 5, 3) := by decide +kernel
theorem dX1_choice_90 : decode cX1_choice 90 = .ok (.iconst 0, 1) := by decide +kernel
theorem dX1_choice_91 : decode cX1_choice 91 = .ok (.ireturn, 1) := by decide +kernel
theorem dX1_choice_92 : decode cX1_choice 92 = .ok (.aload_n 0, 1) := by decide +kernel
theorem dX1_choice_93 : decode cX1_choice 93 = .ok (.iload 4, 2) := by decide +kernel
theorem dX1_choice_95 : decode cX1_choice 95 = .ok (.bipush 44, 2) := by decide +kernel
theorem dX1_choice_97 : decode cX1_choice 97 = .ok (.invokevirtual 137, 3) := by decide +kernel
theorem dX1_choice_100 : decode cX1_choice 100 = .ok (.iconst 1, 1) := by decide +kernel
theorem dX1_choice_101 : decode cX1_choice 101 = .ok (.ireturn, 1) := by decide +kernel
theorem dX1_either_0 : decode cX1_either 0 = .ok (.aload_n 0, 1) := by decide +kernel
theorem dX1_either_1 : decode cX1_either 1 = .ok (.iload_n 1, 1) := by decide +kernel
theorem dX1_either_2 : decode cX1_either 2 = .ok (.iload_n 2, 1) := by decide +kernel
theorem dX1_either_3 : decode cX1_either 3 = .ok (.invokevirtual 140, 3) := by decide +kernel
theorem dX1_either_6 : decode cX1_either 6 = .ok (.istore_n 3, 1) := by decide +kernel
theorem dX1_either_7 : decode cX1_either 7 = .ok (.iconst 0, 1) := by decide +kernel
theorem dX1_either_8 : decode cX1_either 8 = .ok (.istore 4, 2) := by decide +kernel
theorem dX1_either_10 : decode cX1_either 10 = .ok (.iload 4, 2) := by decide +kernel
theorem dX1_either_12 : decode cX1_either 12 = .ok (.sipush 300, 3) := by decide +kernel
theorem dX1_either_15 : decode cX1_either 15 = .ok (.if_icmp .ge 40, 3) := by decide +kernel
theorem dX1_either_18 : decode cX1_either 18 = .ok (.iload_n 3, 1) := by decide +kernel
theorem dX1_either_19 : decode cX1_either 19 = .ok (.ifCond .eq 36, 3) := by decide +kernel
theorem dX1_either_22 : decode cX1_either 22 = .ok (.aload_n 0, 1) := by decide +kernel
theorem dX1_either_23 : decode cX1_either 23 = .ok (.getfield 58, 3) := by decide +kernel
theorem dX1_either_26 : decode cX1_either 26 = .ok (.bipush 24, 2) := by decide +kernel
theorem dX1_either_28 : decode cX1_either 28 = .ok (.if_icmp .ne 27, 3) := by decide +kernel
theorem dX1_either_31 : decode cX1_either 31 = .ok (.aload_n 0, 1) := by decide +kernel
theorem dX1_either_32 : decode cX1_either 32 = .ok (.invokevirtual 89, 3) := by decide +kernel
theorem dX1_either_35 : decode cX1_either 35 = .ok (.aload_n 0, 1) := by decide +kernel
theorem dX1_either_36 : decode cX1_either 36 = .ok (.iload_n 1, 1) := by decide +kernel
theorem dX1_either_37 : decode cX1_either 37 = .ok (.iload_n 2, 1) := by decide +kernel
theorem dX1_either_38 : decode cX1_either 38 = .ok (.invokevirtual 140, 3) := by decide +kernel
theorem dX1_either_41 : decode cX1_either 41 = .ok (.istore_n 3, 1) := by decide +kernel
theorem dX1_either_42 : decode cX1_either 42 = .ok (.aload_n 0, 1) := by decide +kernel
theorem dX1_either_43 : decode cX1_either 43 = .ok (.bipush 24, 2) := by decide +kernel
theorem dX1_either_45 : decode cX1_either 45 = .ok (.iconst 0, 1) := by decide +kernel
theorem dX1_either_46 : decode cX1_either 46 = .ok (.invokevirtual 118, 3) := by decide +kernel
theorem dX1_either_49 : decode cX1_either 49 = .ok (.iinc 4 1, 3) := by decide +kernel
theorem dX1_either_52 : decode cX1_either 52 = .ok (.goto (-42), 3) := by decide +kernel
theorem dX1_either_55 : decode cX1_either 55 = .ok (.iload_n 3, 1) := by decide +kernel
theorem dX1_either_56 : decode cX1_either 56 = .ok (.ireturn, 1) := by decide +kernel
theorem dX1_both_0 : decode cX1_both 0 = .ok (.aload_n 0, 1) := by decide +kernel
theorem dX1_both_1 : decode cX1_both 1 = .ok (.iload_n 1, 1) := by decide +kernel
theorem dX1_both_2 : decode cX1_both 2 = .ok (.iload_n 2, 1) := by decide +kernel
theorem dX1_both_3 : decode cX1_both 3 = .ok (.invokevirtual 143, 3) := by decide +kernel
theorem dX1_both_6 : decode cX1_both 6 = .ok (.istore_n 3, 1) := by decide +kernel
theorem dX1_both_7 : decode cX1_both 7 = .ok (.iconst 0, 1) := by decide +kernel
theorem dX1_both_8 : decode cX1_both 8 = .ok (.istore 4, 2) := by decide +kernel
theorem dX1_both_10 : decode cX1_both 10 = .ok (.iload 4, 2) := by decide +kernel
theorem dX1_both_12 : decode cX1_both 12 = .ok (.sipush 300, 3) := by decide +kernel
theorem dX1_both_15 : decode cX1_both 15 = .ok (.if_icmp .ge 40, 3) := by decide +kernel
theorem dX1_both_18 : decode cX1_both 18 = .ok (.iload_n 3, 1) := by decide +kernel
theorem dX1_both_19 : decode cX1_both 19 = .ok (.ifCond .eq 36, 3) := by decide +kernel
theorem dX1_both_22 : decode cX1_both 22 = .ok (.aload_n 0, 1) := by decide +kernel
theorem dX1_both_23 : decode cX1_both 23 = .ok (.getfield 58, 3) := by decide +kernel
theorem dX1_both_26 : decode cX1_both 26 = .ok (.bipush 25, 2) := by decide +kernel
theorem dX1_both_28 : decode cX1_both 28 = .ok (.if_icmp .ne 27, 3) := by decide +kernel
theorem dX1_both_31 : decode cX1_both 31 = .ok (.aload_n 0, 1) := by decide +kernel
theorem dX1_both_32 : decode cX1_both 32 = .ok (.invokevirtual 89, 3) := by decide +kernel
theorem dX1_both_35 : decode cX1_both 35 = .ok (.aload_n 0, 1) := by decide +kernel
theorem dX1_both_36 : decode cX1_both 36 = .ok (.iload_n 1, 1) := by decide +kernel
theorem dX1_both_37 : decode cX1_both 37 = .ok (.iload_n 2, 1) := by decide +kernel
theorem dX1_both_38 : decode cX1_both 38 = .ok (.invokevirtual 143, 3) := by decide +kernel
theorem dX1_both_41 : decode cX1_both 41 = .ok (.istore_n 3, 1) := by decide +kernel
theorem dX1_both_42 : decode cX1_both 42 = .ok (.aload_n 0, 1) := by decide +kernel
theorem dX1_both_43 : decode cX1_both 43 = .ok (.bipush 25, 2) := by decide +kernel
theorem dX1_both_45 : decode cX1_both 45 = .ok (.iconst 0, 1) := by decide +kernel
theorem dX1_both_46 : decode cX1_both 46 = .ok (.invokevirtual 118, 3) := by decide +kernel
theorem dX1_both_49 : decode cX1_both 49 = .ok (.iinc 4 1, 3) := by decide +kernel
theorem dX1_both_52 : decode cX1_both 52 = .ok (.goto (-42), 3) := by decide +kernel
theorem dX1_both_55 : decode cX1_both 55 = .ok (.iload_n 3, 1) := by decide +kernel
theorem dX1_both_56 : decode cX1_both 56 = .ok (.ireturn, 1) := by decide +kernel
theorem dX1_ask_0 : decode cX1_ask 0 = .ok (.aload_n 0, 1) := by decide +kernel
theorem dX1_ask_1 : decode cX1_ask 1 = .ok (.getfield 58, 3) := by decide +kernel
theorem dX1_ask_4 : decode cX1_ask 4 = .ok (.bipush 21, 2) := by decide +kernel
theorem dX1_ask_6 : decode cX1_ask 6 = .ok (.if_icmp .ne 33, 3) := by decide +kernel
theorem dX1_ask_9 : decode cX1_ask 9 = .ok (.aload_n 0, 1) := by decide +kernel
theorem dX1_ask_10 : decode cX1_ask 10 = .ok (.iload_n 2, 1) := by decide +kernel
theorem dX1_ask_11 : decode cX1_ask 11 = .ok (.invokevirtual 128, 3) := by decide +kernel
theorem dX1_ask_14 : decode cX1_ask 14 = .ok (.ifCond .eq 14, 3) := by decide +kernel
theorem dX1_ask_17 : decode cX1_ask 17 = .ok (.aload_n 0, 1) := by decide +kernel
theorem dX1_ask_18 : decode cX1_ask 18 = .ok (.iload_n 1, 1) := by decide +kernel
theorem dX1_ask_19 : decode cX1_ask 19 = .ok (.iload_n 2, 1) := by decide +kernel
theorem dX1_ask_20 : decode cX1_ask 20 = .ok (.iconst 1, 1) := by decide +kernel
theorem dX1_ask_21 : decode cX1_ask 21 = .ok (.iadd, 1) := by decide +kernel
theorem dX1_ask_22 : decode cX1_ask 22 = .ok (.invokevirtual 143, 3) := by decide +kernel
theorem dX1_ask_25 : decode cX1_ask 25 = .ok (.ifCond .ne 5, 3) := by decide +kernel
theorem dX1_ask_28 : decode cX1_ask 28 = .ok (.iconst 0, 1) := by decide +kernel
theorem dX1_ask_29 : decode cX1_ask 29 = .ok (.ireturn, 1) := by decide +kernel
theorem dX1_ask_30 : decode cX1_ask 30 = .ok (.aload_n 0, 1) := by decide +kernel
theorem dX1_ask_31 : decode cX1_ask 31 = .ok (.bipush 21, 2) := by decide +kernel
theorem dX1_ask_33 : decode cX1_ask 33 = .ok (.iconst 0, 1) := by decide +kernel
theorem dX1_ask_34 : decode cX1_ask 34 = .ok (.invokevirtual 118, 3) := by decide +kernel
theorem dX1_ask_37 : decode cX1_ask 37 = .ok (.iconst 1, 1) := by decide +kernel
theorem dX1_ask_38 : decode cX1_ask 38 = .ok (.ireturn, 1) := by decide +kernel
theorem dX1_ask_39 : decode cX1_ask 39 = .ok (.aload_n 0, 1) := by decide +kernel
theorem dX1_ask_40 : decode cX1_ask 40 = .ok (.iload_n 1, 1) := by decide +kernel
theorem dX1_ask_41 : decode cX1_ask 41 = .ok (.iload_n 2, 1) := by decide +kernel
theorem dX1_ask_42 : decode cX1_ask 42 = .ok (.invokevirtual 111, 3) := by decide +kernel
theorem dX1_ask_45 : decode cX1_ask 45 = .ok (.ifCond .ne 5, 3) := by decide +kernel
theorem dX1_ask_48 : decode cX1_ask 48 = .ok (.iconst 0, 1) := by decide +kernel
theorem dX1_ask_49 : decode cX1_ask 49 = .ok (.ireturn, 1) := by decide +kernel
theorem dX1_ask_50 : decode cX1_ask 50 = .ok (.aload_n 0, 1) := by decide +kernel
theorem dX1_ask_51 : decode cX1_ask 51 = .ok (.getfield 58, 3) := by decide +kernel
theorem dX1_ask_54 : decode cX1_ask 54 = .ok (.istore_n 3, 1) := by decide +kernel
theorem dX1_ask_55 : decode cX1_ask 55 = .ok (.iload_n 3, 1) := by decide +kernel
theorem dX1_ask_56 : decode cX1_ask 56 = .ok (.bipush 26, 2) := by decide +kernel
theorem dX1_ask_58 : decode cX1_ask 58 = .ok (.if_icmp .lt 9, 3) := by decide +kernel
theorem dX1_ask_61 : decode cX1_ask 61 = .ok (.iload_n 3, 1) := by decide +kernel
theorem dX1_ask_62 : decode cX1_ask 62 = .ok (.bipush 31, 2) := by decide +kernel
theorem dX1_ask_64 : decode cX1_ask 64 = .ok (.if_icmp .le 9, 3) := by decide +kernel
theorem dX1_ask_67 : decode cX1_ask 67 = .ok (.aload_n 0, 1) := by decide +kernel
theorem dX1_ask_68 : decode cX1_ask 68 = .ok (.iconst 1, 1) := by decide +kernel
theorem dX1_ask_69 : decode cX1_ask 69 = .ok (.invokevirtual 85, 3) := by decide +kernel
theorem dX1_ask_72 : decode cX1_ask 72 = .ok (.ireturn, 1) := by decide +kernel
theorem dX1_ask_73 : decode cX1_ask 73 = .ok (.aload_n 0, 1) := by decide +kernel
theorem dX1_ask_74 : decode cX1_ask 74 = .ok (.invokevirtual 89, 3) := by decide +kernel
theorem dX1_ask_77 : decode cX1_ask 77 = .ok (.aload_n 0, 1) := by decide +kernel
theorem dX1_ask_78 : decode cX1_ask 78 = .ok (.iload_n 1, 1) := by decide +kernel
theorem dX1_ask_79 : decode cX1_ask 79 = .ok (.iload_n 2, 1) := by decide +kernel
theorem dX1_ask_80 : decode cX1_ask 80 = .ok (.invokevirtual 111, 3) := by decide +kernel
theorem dX1_ask_83 : decode cX1_ask 83 = .ok (.ifCond .ne 5, 3) := by decide +kernel
theorem dX1_ask_86 : decode cX1_ask 86 = .ok (.iconst 0, 1) := by decide +kernel
theorem dX1_ask_87 : decode cX1_ask 87 = .ok (.ireturn, 1) := by decide +kernel
theorem dX1_ask_88 : decode cX1_ask 88 = .ok (.aload_n 0, 1) := by decide +kernel
theorem dX1_ask_89 : decode cX1_ask 89 = .ok (.iload_n 3, 1) := by decide +kernel
theorem dX1_ask_90 : decode cX1_ask 90 = .ok (.iconst 0, 1) := by decide +kernel
theorem dX1_ask_91 : decode cX1_ask 91 = .ok (.invokevirtual 118, 3) := by decide +kernel
theorem dX1_ask_94 : decode cX1_ask 94 = .ok (.iconst 1, 1) := by decide +kernel
theorem dX1_ask_95 : decode cX1_ask 95 = .ok (.ireturn, 1) := by decide +kernel
theorem dX5_init_0 : decode cX5_init 0 = .ok (.aload_n 0, 1) := by decide +kernel
theorem dX5_init_1 : decode cX5_init 1 = .ok (.invokespecial 3, 3) := by decide +kernel
theorem dX5_init_4 : decode cX5_init 4 = .ok (.aload_n 0, 1) := by decide +kernel
theorem dX5_init_5 : decode cX5_init 5 = .ok (.sipush 300, 3) := by decide +kernel
theorem dX5_init_8 : decode cX5_init 8 = .ok (.newarray .int, 2) := by decide +kernel
theorem dX5_init_10 : decode cX5_init 10 = .ok (.putfield 9, 3) := by decide +kernel
theorem dX5_init_13 : decode cX5_init 13 = .ok (.aload_n 0, 1) := by decide +kernel
theorem dX5_init_14 : decode cX5_init 14 = .ok (.sipush 301, 3) := by decide +kernel
theorem dX5_init_17 : decode cX5_init 17 = .ok (.newarray .int, 2) := by decide +kernel
theorem dX5_init_19 : decode cX5_init 19 = .ok (.putfield 15, 3) := by decide +kernel
theorem dX5_init_22 : decode cX5_init 22 = .ok (.aload_n 0, 1) := by decide +kernel
theorem dX5_init_23 : decode cX5_init 23 = .ok (.sipush 301, 3) := by decide +kernel
theorem dX5_init_26 : decode cX5_init 26 = .ok (.newarray .int, 2) := by decide +kernel
theorem dX5_init_28 : decode cX5_init 28 = .ok (.putfield 18, 3) := by decide +kernel
theorem dX5_init_31 : decode cX5_init 31 = .ok (.aload_n 0, 1) := by decide +kernel
theorem dX5_init_32 : decode cX5_init 32 = .ok (.sipush 301, 3) := by decide +kernel
theorem dX5_init_35 : decode cX5_init 35 = .ok (.newarray .int, 2) := by decide +kernel
theorem dX5_init_37 : decode cX5_init 37 = .ok (.putfield 21, 3) := by decide +kernel
theorem dX5_init_40 : decode cX5_init 40 = .ok (.return_, 1) := by decide +kernel
theorem dX5_hasRoomFor_0 : decode cX5_hasRoomFor 0 = .ok (.aload_n 0, 1) := by decide +kernel
theorem dX5_hasRoomFor_1 : decode cX5_hasRoomFor 1 = .ok (.getfield 24, 3) := by decide +kernel
theorem dX5_hasRoomFor_4 : decode cX5_hasRoomFor 4 = .ok (.iload_n 1, 1) := by decide +kernel
theorem dX5_hasRoomFor_5 : decode cX5_hasRoomFor 5 = .ok (.iadd, 1) := by decide +kernel
theorem dX5_hasRoomFor_6 : decode cX5_hasRoomFor 6 = .ok (.sipush 300, 3) := by decide +kernel
theorem dX5_hasRoomFor_9 : decode cX5_hasRoomFor 9 = .ok (.if_icmp .gt 7, 3) := by decide +kernel
theorem dX5_hasRoomFor_12 : decode cX5_hasRoomFor 12 = .ok (.iconst 1, 1) := by decide +kernel
theorem dX5_hasRoomFor_13 : decode cX5_hasRoomFor 13 = .ok (.goto 4, 3) := by decide +kernel
theorem dX5_hasRoomFor_16 : decode cX5_hasRoomFor 16 = .ok (.iconst 0, 1) := by decide +kernel
theorem dX5_hasRoomFor_17 : decode cX5_hasRoomFor 17 = .ok (.ireturn, 1) := by decide +kernel
theorem dX5_takeFour_0 : decode cX5_takeFour 0 = .ok (.bipush 24, 2) := by decide +kernel
theorem dX5_takeFour_2 : decode cX5_takeFour 2 = .ok (.istore_n 2, 1) := by decide +kernel
theorem dX5_takeFour_3 : decode cX5_takeFour 3 = .ok (.iload_n 2, 1) := by decide +kernel
theorem dX5_takeFour_4 : decode cX5_takeFour 4 = .ok (.ifCond .lt 45, 3) := by decide +kernel
theorem dX5_takeFour_7 : decode cX5_takeFour 7 = .ok (.aload_n 0, 1) := by decide +kernel
theorem dX5_takeFour_8 : decode cX5_takeFour 8 = .ok (.getfield 24, 3) := by decide +kernel
theorem dX5_takeFour_11 : decode cX5_takeFour 11 = .ok (.sipush 300, 3) := by decide +kernel
theorem dX5_takeFour_14 : decode cX5_takeFour 14 = .ok (.if_icmp .ge 35, 3) := by decide +kernel
theorem dX5_takeFour_17 : decode cX5_takeFour 17 = .ok (.aload_n 0, 1) := by decide +kernel
theorem dX5_takeFour_18 : decode cX5_takeFour 18 = .ok (.getfield 9, 3) := by decide +kernel
theorem dX5_takeFour_21 : decode cX5_takeFour 21 = .ok (.aload_n 0, 1) := by decide +kernel
theorem dX5_takeFour_22 : decode cX5_takeFour 22 = .ok (.getfield 24, 3) := by decide +kernel
theorem dX5_takeFour_25 : decode cX5_takeFour 25 = .ok (.iload_n 1, 1) := by decide +kernel
theorem dX5_takeFour_26 : decode cX5_takeFour 26 = .ok (.iload_n 2, 1) := by decide +kernel
theorem dX5_takeFour_27 : decode cX5_takeFour 27 = .ok (.iushr, 1) := by decide +kernel
theorem dX5_takeFour_28 : decode cX5_takeFour 28 = .ok (.sipush 255, 3) := by decide +kernel
theorem dX5_takeFour_31 : decode cX5_takeFour 31 = .ok (.iand, 1) := by decide +kernel
theorem dX5_takeFour_32 : decode cX5_takeFour 32 = .ok (.iastore, 1) := by decide +kernel
theorem dX5_takeFour_33 : decode cX5_takeFour 33 = .ok (.aload_n 0, 1) := by decide +kernel
theorem dX5_takeFour_34 : decode cX5_takeFour 34 = .ok (.dup, 1) := by decide +kernel
theorem dX5_takeFour_35 : decode cX5_takeFour 35 = .ok (.getfield 24, 3) := by decide +kernel
theorem dX5_takeFour_38 : decode cX5_takeFour 38 = .ok (.iconst 1, 1) := by decide +kernel
theorem dX5_takeFour_39 : decode cX5_takeFour 39 = .ok (.iadd, 1) := by decide +kernel
theorem dX5_takeFour_40 : decode cX5_takeFour 40 = .ok (.putfield 24, 3) := by decide +kernel
theorem dX5_takeFour_43 : decode cX5_takeFour 43 = .ok (.iinc 2 (-8), 3) := by decide +kernel
theorem dX5_takeFour_46 : decode cX5_takeFour 46 = .ok (.goto (-43), 3) := by decide +kernel
theorem dX5_takeFour_49 : decode cX5_takeFour 49 = .ok (.return_, 1) := by decide +kernel
theorem dX5_findTokens_0 : decode cX5_findTokens 0 = .ok (.aload_n 0, 1) := by decide +kernel
theorem dX5_findTokens_1 : decode cX5_findTokens 1 = .ok (.iconst 0, 1) := by decide +kernel
theorem dX5_findTokens_2 : decode cX5_findTokens 2 = .ok (.putfield 28, 3) := by decide +kernel
theorem dX5_findTokens_5 : decode cX5_findTokens 5 = .ok (.iconst 0, 1) := by decide +kernel
theorem dX5_findTokens_6 : decode cX5_findTokens 6 = .ok (.istore_n 1, 1) := by decide +kernel
theorem dX5_findTokens_7 : decode cX5_findTokens 7 = .ok (.iload_n 1, 1) := by decide +kernel
theorem dX5_findTokens_8 : decode cX5_findTokens 8 = .ok (.aload_n 0, 1) := by decide +kernel
theorem dX5_findTokens_9 : decode cX5_findTokens 9 = .ok (.getfield 24, 3) := by decide +kernel
theorem dX5_findTokens_12 : decode cX5_findTokens 12 = .ok (.if_icmp .ge 46, 3) := by decide +kernel
theorem dX5_findTokens_15 : decode cX5_findTokens 15 = .ok (.aload_n 0, 1) := by decide +kernel
theorem dX5_findTokens_16 : decode cX5_findTokens 16 = .ok (.getfield 9, 3) := by decide +kernel
theorem dX5_findTokens_19 : decode cX5_findTokens 19 = .ok (.iload_n 1, 1) := by decide +kernel
theorem dX5_findTokens_20 : decode cX5_findTokens 20 = .ok (.iaload, 1) := by decide +kernel
theorem dX5_findTokens_21 : decode cX5_findTokens 21 = .ok (.bipush 32, 2) := by decide +kernel
theorem dX5_findTokens_23 : decode cX5_findTokens 23 = .ok (.if_icmp .eq 14, 3) := by decide +kernel
theorem dX5_findTokens_26 : decode cX5_findTokens 26 = .ok (.aload_n 0, 1) := by decide +kernel
theorem dX5_findTokens_27 : decode cX5_findTokens 27 = .ok (.getfield 9, 3) := by decide +kernel
theorem dX5_findTokens_30 : decode cX5_findTokens 30 = .ok (.iload_n 1, 1) := by decide +kernel
theorem dX5_findTokens_31 : decode cX5_findTokens 31 = .ok (.iaload, 1) := by decide +kernel
theorem dX5_findTokens_32 : decode cX5_findTokens 32 = .ok (.bipush 10, 2) := by decide +kernel
theorem dX5_findTokens_34 : decode cX5_findTokens 34 = .ok (.if_icmp .ne 9, 3) := by decide +kernel
theorem dX5_findTokens_37 : decode cX5_findTokens 37 = .ok (.iinc 1 1, 3) := by decide +kernel
theorem dX5_findTokens_40 : decode cX5_findTokens 40 = .ok (.goto (-33), 3) := by decide +kernel
theorem dX5_findTokens_43 : decode cX5_findTokens 43 = .ok (.iload_n 1, 1) := by decide +kernel
theorem dX5_findTokens_44 : decode cX5_findTokens 44 = .ok (.iconst 1, 1) := by decide +kernel
theorem dX5_findTokens_45 : decode cX5_findTokens 45 = .ok (.iadd, 1) := by decide +kernel
theorem dX5_findTokens_46 : decode cX5_findTokens 46 = .ok (.aload_n 0, 1) := by decide +kernel
theorem dX5_findTokens_47 : decode cX5_findTokens 47 = .ok (.iload_n 1, 1) := by decide +kernel
theorem dX5_findTokens_48 : decode cX5_findTokens 48 = .ok (.invokevirtual 31, 3) := by decide +kernel
theorem dX5_findTokens_51 : decode cX5_findTokens 51 = .ok (.invokestatic 35, 3) := by decide +kernel
theorem dX5_findTokens_54 : decode cX5_findTokens 54 = .ok (.istore_n 1, 1) := by decide +kernel
theorem dX5_findTokens_55 : decode cX5_findTokens 55 = .ok (.goto (-48), 3) := by decide +kernel
theorem dX5_findTokens_58 : decode cX5_findTokens 58 = .ok (.aload_n 0, 1) := by decide +kernel
theorem dX5_findTokens_59 : decode cX5_findTokens 59 = .ok (.bipush 40, 2) := by decide +kernel
theorem dX5_findTokens_61 : decode cX5_findTokens 61 = .ok (.aload_n 0, 1) := by decide +kernel
theorem dX5_findTokens_62 : decode cX5_findTokens 62 = .ok (.getfield 24, 3) := by decide +kernel
theorem dX5_findTokens_65 : decode cX5_findTokens 65 = .ok (.iconst 0, 1) := by decide +kernel
theorem dX5_findTokens_66 : decode cX5_findTokens 66 = .ok (.invokevirtual 43, 3) := by decide +kernel
theorem dX5_findTokens_69 : decode cX5_findTokens 69 = .ok (.return_, 1) := by decide +kernel
theorem dX5_add_0 : decode cX5_add 0 = .ok (.aload_n 0, 1) := by decide +kernel
theorem dX5_add_1 : decode cX5_add 1 = .ok (.getfield 28, 3) := by decide +kernel
theorem dX5_add_4 : decode cX5_add 4 = .ok (.aload_n 0, 1) := by decide +kernel
theorem dX5_add_5 : decode cX5_add 5 = .ok (.getfield 15, 3) := by decide +kernel
theorem dX5_add_8 : decode cX5_add 8 = .ok (.arraylength, 1) := by decide +kernel
theorem dX5_add_9 : decode cX5_add 9 = .ok (.if_icmp .ge 43, 3) := by decide +kernel
theorem dX5_add_12 : decode cX5_add 12 = .ok (.aload_n 0, 1) := by decide +kernel
theorem dX5_add_13 : decode cX5_add 13 = .ok (.getfield 15, 3) := by decide +kernel
theorem dX5_add_16 : decode cX5_add 16 = .ok (.aload_n 0, 1) := by decide +kernel
theorem dX5_add_17 : decode cX5_add 17 = .ok (.getfield 28, 3) := by decide +kernel
theorem dX5_add_20 : decode cX5_add 20 = .ok (.iload_n 1, 1) := by decide +kernel
theorem dX5_add_21 : decode cX5_add 21 = .ok (.iastore, 1) := by decide +kernel
theorem dX5_add_22 : decode cX5_add 22 = .ok (.aload_n 0, 1) := by decide +kernel
theorem dX5_add_23 : decode cX5_add 23 = .ok (.getfield 18, 3) := by decide +kernel
theorem dX5_add_26 : decode cX5_add 26 = .ok (.aload_n 0, 1) := by decide +kernel
theorem dX5_add_27 : decode cX5_add 27 = .ok (.getfield 28, 3) := by decide +kernel
theorem dX5_add_30 : decode cX5_add 30 = .ok (.iload_n 2, 1) := by decide +kernel
theorem dX5_add_31 : decode cX5_add 31 = .ok (.iastore, 1) := by decide +kernel
theorem dX5_add_32 : decode cX5_add 32 = .ok (.aload_n 0, 1) := by decide +kernel
theorem dX5_add_33 : decode cX5_add 33 = .ok (.getfield 21, 3) := by decide +kernel
theorem dX5_add_36 : decode cX5_add 36 = .ok (.aload_n 0, 1) := by decide +kernel
theorem dX5_add_37 : decode cX5_add 37 = .ok (.getfield 28, 3) := by decide +kernel
theorem dX5_add_40 : decode cX5_add 40 = .ok (.iload_n 3, 1) := by decide +kernel
theorem dX5_add_41 : decode cX5_add 41 = .ok (.iastore, 1) := by decide +kernel
theorem dX5_add_42 : decode cX5_add 42 = .ok (.aload_n 0, 1) := by decide +kernel
theorem dX5_add_43 : decode cX5_add 43 = .ok (.dup, 1) := by decide +kernel
theorem dX5_add_44 : decode cX5_add 44 = .ok (.getfield 28, 3) := by decide +kernel
theorem dX5_add_47 : decode cX5_add 47 = .ok (.iconst 1, 1) := by decide +kernel
theorem dX5_add_48 : decode cX5_add 48 = .ok (.iadd, 1) := by decide +kernel
theorem dX5_add_49 : decode cX5_add 49 = .ok (.putfield 28, 3) := by decide +kernel
theorem dX5_add_52 : decode cX5_add 52 = .ok (.return_, 1) := by decide +kernel
theorem dX5_takeToken_0 : decode cX5_takeToken 0 = .ok (.aload_n 0, 1) := by decide +kernel
theorem dX5_takeToken_1 : decode cX5_takeToken 1 = .ok (.getfield 9, 3) := by decide +kernel
theorem dX5_takeToken_4 : decode cX5_takeToken 4 = .ok (.iload_n 1, 1) := by decide +kernel
theorem dX5_takeToken_5 : decode cX5_takeToken 5 = .ok (.iaload, 1) := by decide +kernel
theorem dX5_takeToken_6 : decode cX5_takeToken 6 = .ok (.invokestatic 47, 3) := by decide +kernel
theorem dX5_takeToken_9 : decode cX5_takeToken 9 = .ok (.ifCond .eq 9, 3) := by decide +kernel
theorem dX5_takeToken_12 : decode cX5_takeToken 12 = .ok (.aload_n 0, 1) := by decide +kernel
theorem dX5_takeToken_13 : decode cX5_takeToken 13 = .ok (.iload_n 1, 1) := by decide +kernel
theorem dX5_takeToken_14 : decode cX5_takeToken 14 = .ok (.invokevirtual 51, 3) := by decide +kernel
theorem dX5_takeToken_17 : decode cX5_takeToken 17 = .ok (.ireturn, 1) := by decide +kernel
theorem dX5_takeToken_18 : decode cX5_takeToken 18 = .ok (.aload_n 0, 1) := by decide +kernel
theorem dX5_takeToken_19 : decode cX5_takeToken 19 = .ok (.getfield 9, 3) := by decide +kernel
theorem dX5_takeToken_22 : decode cX5_takeToken 22 = .ok (.iload_n 1, 1) := by decide +kernel
theorem dX5_takeToken_23 : decode cX5_takeToken 23 = .ok (.iaload, 1) := by decide +kernel
theorem dX5_takeToken_24 : decode cX5_takeToken 24 = .ok (.invokestatic 54, 3) := by decide +kernel
theorem dX5_takeToken_27 : decode cX5_takeToken 27 = .ok (.ifCond .eq 9, 3) := by decide +kernel
theorem dX5_takeToken_30 : decode cX5_takeToken 30 = .ok (.aload_n 0, 1) := by decide +kernel
theorem dX5_takeToken_31 : decode cX5_takeToken 31 = .ok (.iload_n 1, 1) := by decide +kernel
theorem dX5_takeToken_32 : decode cX5_takeToken 32 = .ok (.invokevirtual 57, 3) := by decide +kernel
theorem dX5_takeToken_35 : decode cX5_takeToken 35 = .ok (.ireturn, 1) := by decide +kernel
theorem dX5_takeToken_36 : decode cX5_takeToken 36 = .ok (.iload_n 1, 1) := by decide +kernel
theorem dX5_takeToken_37 : decode cX5_takeToken 37 = .ok (.iconst 1, 1) := by decide +kernel
theorem dX5_takeToken_38 : decode cX5_takeToken 38 = .ok (.iadd, 1) := by decide +kernel
theorem dX5_takeToken_39 : decode cX5_takeToken 39 = .ok (.aload_n 0, 1) := by decide +kernel
theorem dX5_takeToken_40 : decode cX5_takeToken 40 = .ok (.getfield 24, 3) := by decide +kernel
theorem dX5_takeToken_43 : decode cX5_takeToken 43 = .ok (.if_icmp .ge 20, 3) := by decide +kernel
theorem dX5_takeToken_46 : decode cX5_takeToken 46 = .ok (.aload_n 0, 1) := by decide +kernel
theorem dX5_takeToken_47 : decode cX5_takeToken 47 = .ok (.getfield 9, 3) := by decide +kernel
theorem dX5_takeToken_50 : decode cX5_takeToken 50 = .ok (.iload_n 1, 1) := by decide +kernel
theorem dX5_takeToken_51 : decode cX5_takeToken 51 = .ok (.iconst 1, 1) := by decide +kernel
theorem dX5_takeToken_52 : decode cX5_takeToken 52 = .ok (.iadd, 1) := by decide +kernel
theorem dX5_takeToken_53 : decode cX5_takeToken 53 = .ok (.iaload, 1) := by decide +kernel
theorem dX5_takeToken_54 : decode cX5_takeToken 54 = .ok (.bipush 61, 2) := by decide +kernel
theorem dX5_takeToken_56 : decode cX5_takeToken 56 = .ok (.if_icmp .ne 7, 3) := by decide +kernel
theorem dX5_takeToken_59 : decode cX5_takeToken 59 = .ok (.iconst 1, 1) := by decide +kernel
theorem dX5_takeToken_60 : decode cX5_takeToken 60 = .ok (.goto 4, 3) := by decide +kernel
theorem dX5_takeToken_63 : decode cX5_takeToken 63 = .ok (.iconst 0, 1) := by decide +kernel
theorem dX5_takeToken_64 : decode cX5_takeToken 64 = .ok (.istore_n 2, 1) := by decide +kernel
theorem dX5_takeToken_65 : decode cX5_takeToken 65 = .ok (.iload_n 2, 1) := by decide +kernel
theorem dX5_takeToken_66 : decode cX5_takeToken 66 = .ok (.ifCond .eq 53, 3) := by decide +kernel
theorem dX5_takeToken_69 : decode cX5_takeToken 69 = .ok (.aload_n 0, 1) := by decide +kernel
theorem dX5_takeToken_70 : decode cX5_takeToken 70 = .ok (.getfield 9, 3) := by decide +kernel
theorem dX5_takeToken_73 : decode cX5_takeToken 73 = .ok (.iload_n 1, 1) := by decide +kernel
theorem dX5_takeToken_74 : decode cX5_takeToken 74 = .ok (.iaload, 1) := by decide +kernel
theorem dX5_takeToken_75 : decode cX5_takeToken 75 = .ok (.bipush 60, 2) := by decide +kernel
theorem dX5_takeToken_77 : decode cX5_takeToken 77 = .ok (.if_icmp .eq 14, 3) := by decide +kernel
theorem dX5_takeToken_80 : decode cX5_takeToken 80 = .ok (.aload_n 0, 1) := by decide +kernel
theorem dX5_takeToken_81 : decode cX5_takeToken 81 = .ok (.getfield 9, 3) := by decide +kernel
theorem dX5_takeToken_84 : decode cX5_takeToken 84 = .ok (.iload_n 1, 1) := by decide +kernel
theorem dX5_takeToken_85 : decode cX5_takeToken 85 = .ok (.iaload, 1) := by decide +kernel
theorem dX5_takeToken_86 : decode cX5_takeToken 86 = .ok (.bipush 62, 2) := by decide +kernel
theorem dX5_takeToken_88 : decode cX5_takeToken 88 = .ok (.if_icmp .ne 31, 3) := by decide +kernel
theorem dX5_takeToken_91 : decode cX5_takeToken 91 = .ok (.aload_n 0, 1) := by decide +kernel
theorem dX5_takeToken_92 : decode cX5_takeToken 92 = .ok (.aload_n 0, 1) := by decide +kernel
theorem dX5_takeToken_93 : decode cX5_takeToken 93 = .ok (.getfield 9, 3) := by decide +kernel
theorem dX5_takeToken_96 : decode cX5_takeToken 96 = .ok (.iload_n 1, 1) := by decide +kernel
theorem dX5_takeToken_97 : decode cX5_takeToken 97 = .ok (.iaload, 1) := by decide +kernel
theorem dX5_takeToken_98 : decode cX5_takeToken 98 = .ok (.bipush 60, 2) := by decide +kernel
theorem dX5_takeToken_100 : decode cX5_takeToken 100 = .ok (.if_icmp .ne 8, 3) := by decide +kernel
theorem dX5_takeToken_103 : decode cX5_takeToken 103 = .ok (.bipush 26, 2) := by decide +kernel
theorem dX5_takeToken_105 : decode cX5_takeToken 105 = .ok (.goto 5, 3) := by decide +kernel
theorem dX5_takeToken_108 : decode cX5_takeToken 108 = .ok (.bipush 27, 2) := by decide +kernel
theorem dX5_takeToken_110 : decode cX5_takeToken 110 = .ok (.iload_n 1, 1) := by decide +kernel
theorem dX5_takeToken_111 : decode cX5_takeToken 111 = .ok (.iconst 0, 1) := by decide +kernel
theorem dX5_takeToken_112 : decode cX5_takeToken 112 = .ok (.invokevirtual 43, 3) := by decide +kernel
theorem dX5_takeToken_115 : decode cX5_takeToken 115 = .ok (.iload_n 1, 1) := by decide +kernel
theorem dX5_takeToken_116 : decode cX5_takeToken 116 = .ok (.iconst 2, 1) := by decide +kernel
theorem dX5_takeToken_117 : decode cX5_takeToken 117 = .ok (.iadd, 1) := by decide +kernel
theorem dX5_takeToken_118 : decode cX5_takeToken 118 = .ok (.ireturn, 1) := by decide +kernel
theorem dX5_takeToken_119 : decode cX5_takeToken 119 = .ok (.aload_n 0, 1) := by decide +kernel
theorem dX5_takeToken_120 : decode cX5_takeToken 120 = .ok (.aload_n 0, 1) := by decide +kernel
theorem dX5_takeToken_121 : decode cX5_takeToken 121 = .ok (.getfield 9, 3) := by decide +kernel
theorem dX5_takeToken_124 : decode cX5_takeToken 124 = .ok (.iload_n 1, 1) := by decide +kernel
theorem dX5_takeToken_125 : decode cX5_takeToken 125 = .ok (.iaload, 1) := by decide +kernel
theorem dX5_takeToken_126 : decode cX5_takeToken 126 = .ok (.invokestatic 60, 3) := by decide +kernel
theorem dX5_takeToken_129 : decode cX5_takeToken 129 = .ok (.iload_n 1, 1) := by decide +kernel
theorem dX5_takeToken_130 : decode cX5_takeToken 130 = .ok (.iconst 0, 1) := by decide +kernel
theorem dX5_takeToken_131 : decode cX5_takeToken 131 = .ok (.invokevirtual 43, 3) := by decide +kernel
theorem dX5_takeToken_134 : decode cX5_takeToken 134 = .ok (.iload_n 1, 1) := by decide +kernel
theorem dX5_takeToken_135 : decode cX5_takeToken 135 = .ok (.iconst 1, 1) := by decide +kernel
theorem dX5_takeToken_136 : decode cX5_takeToken 136 = .ok (.iadd, 1) := by decide +kernel
theorem dX5_takeToken_137 : decode cX5_takeToken 137 = .ok (.ireturn, 1) := by decide +kernel
theorem dX5_isLetter_0 : decode cX5_isLetter 0 = .ok (.iload_n 0, 1) := by decide +kernel
theorem dX5_isLetter_1 : decode cX5_isLetter 1 = .ok (.bipush 97, 2) := by decide +kernel
theorem dX5_isLetter_3 : decode cX5_isLetter 3 = .ok (.if_icmp .lt 9, 3) := by decide +kernel
theorem dX5_isLetter_6 : decode cX5_isLetter 6 = .ok (.iload_n 0, 1) := by decide +kernel
theorem dX5_isLetter_7 : decode cX5_isLetter 7 = .ok (.bipush 122, 2) := by decide +kernel
theorem dX5_isLetter_9 : decode cX5_isLetter 9 = .ok (.if_icmp .le 15, 3) := by decide +kernel
theorem dX5_isLetter_12 : decode cX5_isLetter 12 = .ok (.iload_n 0, 1) := by decide +kernel
theorem dX5_isLetter_13 : decode cX5_isLetter 13 = .ok (.bipush 65, 2) := by decide +kernel
theorem dX5_isLetter_15 : decode cX5_isLetter 15 = .ok (.if_icmp .lt 13, 3) := by decide +kernel
theorem dX5_isLetter_18 : decode cX5_isLetter 18 = .ok (.iload_n 0, 1) := by decide +kernel
theorem dX5_isLetter_19 : decode cX5_isLetter 19 = .ok (.bipush 90, 2) := by decide +kernel
theorem dX5_isLetter_21 : decode cX5_isLetter 21 = .ok (.if_icmp .gt 7, 3) := by decide +kernel
theorem dX5_isLetter_24 : decode cX5_isLetter 24 = .ok (.iconst 1, 1) := by decide +kernel
theorem dX5_isLetter_25 : decode cX5_isLetter 25 = .ok (.goto 4, 3) := by decide +kernel
theorem dX5_isLetter_28 : decode cX5_isLetter 28 = .ok (.iconst 0, 1) := by decide +kernel
theorem dX5_isLetter_29 : decode cX5_isLetter 29 = .ok (.ireturn, 1) := by decide +kernel
theorem dX5_isDigit_0 : decode cX5_isDigit 0 = .ok (.iload_n 0, 1) := by decide +kernel
theorem dX5_isDigit_1 : decode cX5_isDigit 1 = .ok (.bipush 48, 2) := by decide +kernel
theorem dX5_isDigit_3 : decode cX5_isDigit 3 = .ok (.if_icmp .lt 13, 3) := by decide +kernel
theorem dX5_isDigit_6 : decode cX5_isDigit 6 = .ok (.iload_n 0, 1) := by decide +kernel
theorem dX5_isDigit_7 : decode cX5_isDigit 7 = .ok (.bipush 57, 2) := by decide +kernel
theorem dX5_isDigit_9 : decode cX5_isDigit 9 = .ok (.if_icmp .gt 7, 3) := by decide +kernel
theorem dX5_isDigit_12 : decode cX5_isDigit 12 = .ok (.iconst 1, 1) := by decide +kernel
theorem dX5_isDigit_13 : decode cX5_isDigit 13 = .ok (.goto 4, 3) := by decide +kernel
theorem dX5_isDigit_16 : decode cX5_isDigit 16 = .ok (.iconst 0, 1) := by decide +kernel
theorem dX5_isDigit_17 : decode cX5_isDigit 17 = .ok (.ireturn, 1) := by decide +kernel
theorem dX5_takeWord_0 : decode cX5_takeWord 0 = .ok (.iload_n 1, 1) := by decide +kernel
theorem dX5_takeWord_1 : decode cX5_takeWord 1 = .ok (.istore_n 2, 1) := by decide +kernel
theorem dX5_takeWord_2 : decode cX5_takeWord 2 = .ok (.iload_n 2, 1) := by decide +kernel
theorem dX5_takeWord_3 : decode cX5_takeWord 3 = .ok (.aload_n 0, 1) := by decide +kernel
theorem dX5_takeWord_4 : decode cX5_takeWord 4 = .ok (.getfield 24, 3) := by decide +kernel
theorem dX5_takeWord_7 : decode cX5_takeWord 7 = .ok (.if_icmp .ge 21, 3) := by decide +kernel
theorem dX5_takeWord_10 : decode cX5_takeWord 10 = .ok (.aload_n 0, 1) := by decide +kernel
theorem dX5_takeWord_11 : decode cX5_takeWord 11 = .ok (.getfield 9, 3) := by decide +kernel
theorem dX5_takeWord_14 : decode cX5_takeWord 14 = .ok (.iload_n 2, 1) := by decide +kernel
theorem dX5_takeWord_15 : decode cX5_takeWord 15 = .ok (.iaload, 1) := by decide +kernel
theorem dX5_takeWord_16 : decode cX5_takeWord 16 = .ok (.invokestatic 47, 3) := by decide +kernel
theorem dX5_takeWord_19 : decode cX5_takeWord 19 = .ok (.ifCond .eq 9, 3) := by decide +kernel
theorem dX5_takeWord_22 : decode cX5_takeWord 22 = .ok (.iinc 2 1, 3) := by decide +kernel
theorem dX5_takeWord_25 : decode cX5_takeWord 25 = .ok (.goto (-23), 3) := by decide +kernel
theorem dX5_takeWord_28 : decode cX5_takeWord 28 = .ok (.aload_n 0, 1) := by decide +kernel
theorem dX5_takeWord_29 : decode cX5_takeWord 29 = .ok (.aload_n 0, 1) := by decide +kernel
theorem dX5_takeWord_30 : decode cX5_takeWord 30 = .ok (.iload_n 1, 1) := by decide +kernel
theorem dX5_takeWord_31 : decode cX5_takeWord 31 = .ok (.iload_n 2, 1) := by decide +kernel
theorem dX5_takeWord_32 : decode cX5_takeWord 32 = .ok (.invokevirtual 63, 3) := by decide +kernel
theorem dX5_takeWord_35 : decode cX5_takeWord 35 = .ok (.iload_n 1, 1) := by decide +kernel
theorem dX5_takeWord_36 : decode cX5_takeWord 36 = .ok (.iconst 0, 1) := by decide +kernel
theorem dX5_takeWord_37 : decode cX5_takeWord 37 = .ok (.invokevirtual 43, 3) := by decide +kernel
theorem dX5_takeWord_40 : decode cX5_takeWord 40 = .ok (.iload_n 2, 1) := by decide +kernel
theorem dX5_takeWord_41 : decode cX5_takeWord 41 = .ok (.ireturn, 1) := by decide +kernel
theorem dX5_wordOf_0 : decode cX5_wordOf 0 = .ok (.iconst 0, 1) := by decide +kernel
theorem dX5_wordOf_1 : decode cX5_wordOf 1 = .ok (.istore_n 3, 1) := by decide +kernel
theorem dX5_wordOf_2 : decode cX5_wordOf 2 = .ok (.iload_n 1, 1) := by decide +kernel
theorem dX5_wordOf_3 : decode cX5_wordOf 3 = .ok (.istore 4, 2) := by decide +kernel
theorem dX5_wordOf_5 : decode cX5_wordOf 5 = .ok (.iconst 0, 1) := by decide +kernel
theorem dX5_wordOf_6 : decode cX5_wordOf 6 = .ok (.istore 5, 2) := by decide +kernel
theorem dX5_wordOf_8 : decode cX5_wordOf 8 = .ok (.iload 5, 2) := by decide +kernel
theorem dX5_wordOf_10 : decode cX5_wordOf 10 = .ok (.ldc 66, 2) := by decide +kernel
theorem dX5_wordOf_12 : decode cX5_wordOf 12 = .ok (.invokevirtual 68, 3) := by decide +kernel
theorem dX5_wordOf_15 : decode cX5_wordOf 15 = .ok (.if_icmp .ge 75, 3) := by decide +kernel
theorem dX5_wordOf_18 : decode cX5_wordOf 18 = .ok (.ldc 66, 2) := by decide +kernel
theorem dX5_wordOf_20 : decode cX5_wordOf 20 = .ok (.iload 5, 2) := by decide +kernel
theorem dX5_wordOf_22 : decode cX5_wordOf 22 = .ok (.invokevirtual 73, 3) := by decide +kernel
theorem dX5_wordOf_25 : decode cX5_wordOf 25 = .ok (.istore 6, 2) := by decide +kernel
theorem dX5_wordOf_27 : decode cX5_wordOf 27 = .ok (.iload 6, 2) := by decide +kernel
theorem dX5_wordOf_29 : decode cX5_wordOf 29 = .ok (.bipush 32, 2) := by decide +kernel
theorem dX5_wordOf_31 : decode cX5_wordOf 31 = .ok (.if_icmp .eq 39, 3) := by decide +kernel
theorem dX5_wordOf_34 : decode cX5_wordOf 34 = .ok (.iload 4, 2) := by decide +kernel
theorem dX5_wordOf_36 : decode cX5_wordOf 36 = .ok (.ifCond .lt 28, 3) := by decide +kernel
theorem dX5_wordOf_39 : decode cX5_wordOf 39 = .ok (.iload 4, 2) := by decide +kernel
theorem dX5_wordOf_41 : decode cX5_wordOf 41 = .ok (.iload_n 2, 1) := by decide +kernel
theorem dX5_wordOf_42 : decode cX5_wordOf 42 = .ok (.if_icmp .ge 22, 3) := by decide +kernel
theorem dX5_wordOf_45 : decode cX5_wordOf 45 = .ok (.aload_n 0, 1) := by decide +kernel
theorem dX5_wordOf_46 : decode cX5_wordOf 46 = .ok (.getfield 9, 3) := by decide +kernel
theorem dX5_wordOf_49 : decode cX5_wordOf 49 = .ok (.iload 4, 2) := by decide +kernel
theorem dX5_wordOf_51 : decode cX5_wordOf 51 = .ok (.iaload, 1) := by decide +kernel
theorem dX5_wordOf_52 : decode cX5_wordOf 52 = .ok (.iload 6, 2) := by decide +kernel
theorem dX5_wordOf_54 : decode cX5_wordOf 54 = .ok (.if_icmp .ne 10, 3) := by decide +kernel
theorem dX5_wordOf_57 : decode cX5_wordOf 57 = .ok (.iload 4, 2) := by decide +kernel
theorem dX5_wordOf_59 : decode cX5_wordOf 59 = .ok (.iconst 1, 1) := by decide +kernel
theorem dX5_wordOf_60 : decode cX5_wordOf 60 = .ok (.iadd, 1) := by decide +kernel
theorem dX5_wordOf_61 : decode cX5_wordOf 61 = .ok (.goto 4, 3) := by decide +kernel
theorem dX5_wordOf_64 : decode cX5_wordOf 64 = .ok (.iconst (-1), 1) := by decide +kernel
theorem dX5_wordOf_65 : decode cX5_wordOf 65 = .ok (.istore 4, 2) := by decide +kernel
theorem dX5_wordOf_67 : decode cX5_wordOf 67 = .ok (.goto 17, 3) := by decide +kernel
theorem dX5_wordOf_70 : decode cX5_wordOf 70 = .ok (.iload 4, 2) := by decide +kernel
theorem dX5_wordOf_72 : decode cX5_wordOf 72 = .ok (.iload_n 2, 1) := by decide +kernel
theorem dX5_wordOf_73 : decode cX5_wordOf 73 = .ok (.if_icmp .ne 5, 3) := by decide +kernel
theorem dX5_wordOf_76 : decode cX5_wordOf 76 = .ok (.iload_n 3, 1) := by decide +kernel
theorem dX5_wordOf_77 : decode cX5_wordOf 77 = .ok (.ireturn, 1) := by decide +kernel
theorem dX5_wordOf_78 : decode cX5_wordOf 78 = .ok (.iinc 3 1, 3) := by decide +kernel
theorem dX5_wordOf_81 : decode cX5_wordOf 81 = .ok (.iload_n 1, 1) := by decide +kernel
theorem dX5_wordOf_82 : decode cX5_wordOf 82 = .ok (.istore 4, 2) := by decide +kernel
theorem dX5_wordOf_84 : decode cX5_wordOf 84 = .ok (.iinc 5 1, 3) := by decide +kernel
theorem dX5_wordOf_87 : decode cX5_wordOf 87 = .ok (.goto (-79), 3) := by decide +kernel
theorem dX5_wordOf_90 : decode cX5_wordOf 90 = .ok (.bipush 41, 2) := by decide +kernel
theorem dX5_wordOf_92 : decode cX5_wordOf 92 = .ok (.ireturn, 1) := by decide +kernel
theorem dX5_takeNumber_0 : decode cX5_takeNumber 0 = .ok (.iload_n 1, 1) := by decide +kernel
theorem dX5_takeNumber_1 : decode cX5_takeNumber 1 = .ok (.istore_n 2, 1) := by decide +kernel
theorem dX5_takeNumber_2 : decode cX5_takeNumber 2 = .ok (.iconst 0, 1) := by decide +kernel
theorem dX5_takeNumber_3 : decode cX5_takeNumber 3 = .ok (.istore_n 3, 1) := by decide +kernel
theorem dX5_takeNumber_4 : decode cX5_takeNumber 4 = .ok (.iload_n 2, 1) := by decide +kernel
theorem dX5_takeNumber_5 : decode cX5_takeNumber 5 = .ok (.aload_n 0, 1) := by decide +kernel
theorem dX5_takeNumber_6 : decode cX5_takeNumber 6 = .ok (.getfield 24, 3) := by decide +kernel
theorem dX5_takeNumber_9 : decode cX5_takeNumber 9 = .ok (.if_icmp .ge 42, 3) := by decide +kernel
theorem dX5_takeNumber_12 : decode cX5_takeNumber 12 = .ok (.aload_n 0, 1) := by decide +kernel
theorem dX5_takeNumber_13 : decode cX5_takeNumber 13 = .ok (.getfield 9, 3) := by decide +kernel
theorem dX5_takeNumber_16 : decode cX5_takeNumber 16 = .ok (.iload_n 2, 1) := by decide +kernel
theorem dX5_takeNumber_17 : decode cX5_takeNumber 17 = .ok (.iaload, 1) := by decide +kernel
theorem dX5_takeNumber_18 : decode cX5_takeNumber 18 = .ok (.invokestatic 54, 3) := by decide +kernel
theorem dX5_takeNumber_21 : decode cX5_takeNumber 21 = .ok (.ifCond .eq 30, 3) := by decide +kernel
theorem dX5_takeNumber_24 : decode cX5_takeNumber 24 = .ok (.sipush 10000, 3) := by decide +kernel
theorem dX5_takeNumber_27 : decode cX5_takeNumber 27 = .ok (.iload_n 3, 1) := by decide +kernel
theorem dX5_takeNumber_28 : decode cX5_takeNumber 28 = .ok (.bipush 10, 2) := by decide +kernel
theorem dX5_takeNumber_30 : decode cX5_takeNumber 30 = .ok (.imul, 1) := by decide +kernel
theorem dX5_takeNumber_31 : decode cX5_takeNumber 31 = .ok (.aload_n 0, 1) := by decide +kernel
theorem dX5_takeNumber_32 : decode cX5_takeNumber 32 = .ok (.getfield 9, 3) := by decide +kernel
theorem dX5_takeNumber_35 : decode cX5_takeNumber 35 = .ok (.iload_n 2, 1) := by decide +kernel
theorem dX5_takeNumber_36 : decode cX5_takeNumber 36 = .ok (.iaload, 1) := by decide +kernel
theorem dX5_takeNumber_37 : decode cX5_takeNumber 37 = .ok (.iadd, 1) := by decide +kernel
theorem dX5_takeNumber_38 : decode cX5_takeNumber 38 = .ok (.bipush 48, 2) := by decide +kernel
theorem dX5_takeNumber_40 : decode cX5_takeNumber 40 = .ok (.isub, 1) := by decide +kernel
theorem dX5_takeNumber_41 : decode cX5_takeNumber 41 = .ok (.invokestatic 77, 3) := by decide +kernel
theorem dX5_takeNumber_44 : decode cX5_takeNumber 44 = .ok (.istore_n 3, 1) := by decide +kernel
theorem dX5_takeNumber_45 : decode cX5_takeNumber 45 = .ok (.iinc 2 1, 3) := by decide +kernel
theorem dX5_takeNumber_48 : decode cX5_takeNumber 48 = .ok (.goto (-44), 3) := by decide +kernel
theorem dX5_takeNumber_51 : decode cX5_takeNumber 51 = .ok (.aload_n 0, 1) := by decide +kernel
theorem dX5_takeNumber_52 : decode cX5_takeNumber 52 = .ok (.bipush 39, 2) := by decide +kernel
theorem dX5_takeNumber_54 : decode cX5_takeNumber 54 = .ok (.iload_n 1, 1) := by decide +kernel
theorem dX5_takeNumber_55 : decode cX5_takeNumber 55 = .ok (.iload_n 3, 1) := by decide +kernel
theorem dX5_takeNumber_56 : decode cX5_takeNumber 56 = .ok (.invokevirtual 43, 3) := by decide +kernel
theorem dX5_takeNumber_59 : decode cX5_takeNumber 59 = .ok (.iload_n 2, 1) := by decide +kernel
theorem dX5_takeNumber_60 : decode cX5_takeNumber 60 = .ok (.ireturn, 1) := by decide +kernel
theorem dX5_signOf_0 : decode cX5_signOf 0 = .ok (.iload_n 0, 1) := by decide +kernel
theorem dX5_signOf_1 : decode cX5_signOf 1 = .ok (.tableswitch 160 35 62 #[136, 160, 160, 160, 160, 151, 154, 145, 139, 160, 142, 160, 148, 160, 160, 160, 160, 160, 160, 160, 160, 160, 160, 160, 157, 127, 133, 130], 127) := by decide +kernel
theorem dX5_signOf_128 : decode cX5_signOf 128 = .ok (.bipush 28, 2) := by decide +kernel
theorem dX5_signOf_130 : decode cX5_signOf 130 = .ok (.ireturn, 1) := by decide +kernel
theorem dX5_signOf_131 : decode cX5_signOf 131 = .ok (.bipush 29, 2) := by decide +kernel
theorem dX5_signOf_133 : decode cX5_signOf 133 = .ok (.ireturn, 1) := by decide +kernel
theorem dX5_signOf_134 : decode cX5_signOf 134 = .ok (.bipush 30, 2) := by decide +kernel
theorem dX5_signOf_136 : decode cX5_signOf 136 = .ok (.ireturn, 1) := by decide +kernel
theorem dX5_signOf_137 : decode cX5_signOf 137 = .ok (.bipush 31, 2) := by decide +kernel
theorem dX5_signOf_139 : decode cX5_signOf 139 = .ok (.ireturn, 1) := by decide +kernel
theorem dX5_signOf_140 : decode cX5_signOf 140 = .ok (.bipush 32, 2) := by decide +kernel
theorem dX5_signOf_142 : decode cX5_signOf 142 = .ok (.ireturn, 1) := by decide +kernel
theorem dX5_signOf_143 : decode cX5_signOf 143 = .ok (.bipush 33, 2) := by decide +kernel
theorem dX5_signOf_145 : decode cX5_signOf 145 = .ok (.ireturn, 1) := by decide +kernel
theorem dX5_signOf_146 : decode cX5_signOf 146 = .ok (.bipush 34, 2) := by decide +kernel
theorem dX5_signOf_148 : decode cX5_signOf 148 = .ok (.ireturn, 1) := by decide +kernel
theorem dX5_signOf_149 : decode cX5_signOf 149 = .ok (.bipush 35, 2) := by decide +kernel
theorem dX5_signOf_151 : decode cX5_signOf 151 = .ok (.ireturn, 1) := by decide +kernel
theorem dX5_signOf_152 : decode cX5_signOf 152 = .ok (.bipush 36, 2) := by decide +kernel
theorem dX5_signOf_154 : decode cX5_signOf 154 = .ok (.ireturn, 1) := by decide +kernel
theorem dX5_signOf_155 : decode cX5_signOf 155 = .ok (.bipush 37, 2) := by decide +kernel
theorem dX5_signOf_157 : decode cX5_signOf 157 = .ok (.ireturn, 1) := by decide +kernel
theorem dX5_signOf_158 : decode cX5_signOf 158 = .ok (.bipush 38, 2) := by decide +kernel
theorem dX5_signOf_160 : decode cX5_signOf 160 = .ok (.ireturn, 1) := by decide +kernel
theorem dX5_signOf_161 : decode cX5_signOf 161 = .ok (.bipush 41, 2) := by decide +kernel
theorem dX5_signOf_163 : decode cX5_signOf 163 = .ok (.ireturn, 1) := by decide +kernel
theorem dX6_init_0 : decode cX6_init 0 = .ok (.aload_n 0, 1) := by decide +kernel
theorem dX6_init_1 : decode cX6_init 1 = .ok (.invokespecial 1, 3) := by decide +kernel
theorem dX6_init_4 : decode cX6_init 4 = .ok (.aload_n 0, 1) := by decide +kernel
theorem dX6_init_5 : decode cX6_init 5 = .ok (.aload_n 1, 1) := by decide +kernel
theorem dX6_init_6 : decode cX6_init 6 = .ok (.putfield 7, 3) := by decide +kernel
theorem dX6_init_9 : decode cX6_init 9 = .ok (.aload_n 0, 1) := by decide +kernel
theorem dX6_init_10 : decode cX6_init 10 = .ok (.aload_n 2, 1) := by decide +kernel
theorem dX6_init_11 : decode cX6_init 11 = .ok (.putfield 13, 3) := by decide +kernel
theorem dX6_init_14 : decode cX6_init 14 = .ok (.aload_n 0, 1) := by decide +kernel
theorem dX6_init_15 : decode cX6_init 15 = .ok (.aload_n 3, 1) := by decide +kernel
theorem dX6_init_16 : decode cX6_init 16 = .ok (.putfield 16, 3) := by decide +kernel
theorem dX6_init_19 : decode cX6_init 19 = .ok (.return_, 1) := by decide +kernel
