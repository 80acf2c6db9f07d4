theorem dX9_init_0 : decode cX9_init 0 = .ok (.aload_n 0, 1) := by decide +kernel
theorem dX9_init_1 : decode cX9_init 1 = .ok (.invokespecial 3, 3) := by decide +kernel
theorem dX9_init_4 : decode cX9_init 4 = .ok (.aload_n 0, 1) := by decide +kernel
theorem dX9_init_5 : decode cX9_init 5 = .ok (.new 9, 3) := by decide +kernel
theorem dX9_init_8 : decode cX9_init 8 = .ok (.dup, 1) := by decide +kernel
theorem dX9_init_9 : decode cX9_init 9 = .ok (.invokespecial 11, 3) := by decide +kernel
theorem dX9_init_12 : decode cX9_init 12 = .ok (.putfield 12, 3) := by decide +kernel
theorem dX9_init_15 : decode cX9_init 15 = .ok (.aload_n 0, 1) := by decide +kernel
theorem dX9_init_16 : decode cX9_init 16 = .ok (.new 9, 3) := by decide +kernel
theorem dX9_init_19 : decode cX9_init 19 = .ok (.dup, 1) := by decide +kernel
theorem dX9_init_20 : decode cX9_init 20 = .ok (.invokespecial 11, 3) := by decide +kernel
theorem dX9_init_23 : decode cX9_init 23 = .ok (.putfield 16, 3) := by decide +kernel
theorem dX9_init_26 : decode cX9_init 26 = .ok (.aload_n 0, 1) := by decide +kernel
theorem dX9_init_27 : decode cX9_init 27 = .ok (.new 19, 3) := by decide +kernel
theorem dX9_init_30 : decode cX9_init 30 = .ok (.dup, 1) := by decide +kernel
theorem dX9_init_31 : decode cX9_init 31 = .ok (.aload_n 0, 1) := by decide +kernel
theorem dX9_init_32 : decode cX9_init 32 = .ok (.getfield 12, 3) := by decide +kernel
theorem dX9_init_35 : decode cX9_init 35 = .ok (.invokespecial 21, 3) := by decide +kernel
theorem dX9_init_38 : decode cX9_init 38 = .ok (.putfield 24, 3) := by decide +kernel
theorem dX9_init_41 : decode cX9_init 41 = .ok (.aload_n 0, 1) := by decide +kernel
theorem dX9_init_42 : decode cX9_init 42 = .ok (.new 28, 3) := by decide +kernel
theorem dX9_init_45 : decode cX9_init 45 = .ok (.dup, 1) := by decide +kernel
theorem dX9_init_46 : decode cX9_init 46 = .ok (.aload_n 0, 1) := by decide +kernel
theorem dX9_init_47 : decode cX9_init 47 = .ok (.getfield 12, 3) := by decide +kernel
theorem dX9_init_50 : decode cX9_init 50 = .ok (.aload_n 0, 1) := by decide +kernel
theorem dX9_init_51 : decode cX9_init 51 = .ok (.getfield 16, 3) := by decide +kernel
theorem dX9_init_54 : decode cX9_init 54 = .ok (.aload_n 0, 1) := by decide +kernel
theorem dX9_init_55 : decode cX9_init 55 = .ok (.getfield 24, 3) := by decide +kernel
theorem dX9_init_58 : decode cX9_init 58 = .ok (.invokespecial 30, 3) := by decide +kernel
theorem dX9_init_61 : decode cX9_init 61 = .ok (.putfield 33, 3) := by decide +kernel
theorem dX9_init_64 : decode cX9_init 64 = .ok (.aload_n 0, 1) := by decide +kernel
theorem dX9_init_65 : decode cX9_init 65 = .ok (.new 37, 3) := by decide +kernel
theorem dX9_init_68 : decode cX9_init 68 = .ok (.dup, 1) := by decide +kernel
theorem dX9_init_69 : decode cX9_init 69 = .ok (.invokespecial 39, 3) := by decide +kernel
theorem dX9_init_72 : decode cX9_init 72 = .ok (.putfield 40, 3) := by decide +kernel
theorem dX9_init_75 : decode cX9_init 75 = .ok (.aload_n 0, 1) := by decide +kernel
theorem dX9_init_76 : decode cX9_init 76 = .ok (.new 44, 3) := by decide +kernel
theorem dX9_init_79 : decode cX9_init 79 = .ok (.dup, 1) := by decide +kernel
theorem dX9_init_80 : decode cX9_init 80 = .ok (.invokespecial 46, 3) := by decide +kernel
theorem dX9_init_83 : decode cX9_init 83 = .ok (.putfield 47, 3) := by decide +kernel
theorem dX9_init_86 : decode cX9_init 86 = .ok (.aload_n 0, 1) := by decide +kernel
theorem dX9_init_87 : decode cX9_init 87 = .ok (.new 51, 3) := by decide +kernel
theorem dX9_init_90 : decode cX9_init 90 = .ok (.dup, 1) := by decide +kernel
theorem dX9_init_91 : decode cX9_init 91 = .ok (.aload_n 0, 1) := by decide +kernel
theorem dX9_init_92 : decode cX9_init 92 = .ok (.getfield 47, 3) := by decide +kernel
theorem dX9_init_95 : decode cX9_init 95 = .ok (.invokespecial 53, 3) := by decide +kernel
theorem dX9_init_98 : decode cX9_init 98 = .ok (.putfield 56, 3) := by decide +kernel
theorem dX9_init_101 : decode cX9_init 101 = .ok (.return_, 1) := by decide +kernel
theorem dX9_hand_0 : decode cX9_hand 0 = .ok (.iload_n 1, 1) := by decide +kernel
theorem dX9_hand_1 : decode cX9_hand 1 = .ok (.iconst 1, 1) := by decide +kernel
theorem dX9_hand_2 : decode cX9_hand 2 = .ok (.if_icmp .lt 20, 3) := by decide +kernel
theorem dX9_hand_5 : decode cX9_hand 5 = .ok (.iload_n 1, 1) := by decide +kernel
theorem dX9_hand_6 : decode cX9_hand 6 = .ok (.bipush 9, 2) := by decide +kernel
theorem dX9_hand_8 : decode cX9_hand 8 = .ok (.if_icmp .gt 14, 3) := by decide +kernel
theorem dX9_hand_11 : decode cX9_hand 11 = .ok (.aload_n 0, 1) := by decide +kernel
theorem dX9_hand_12 : decode cX9_hand 12 = .ok (.getfield 12, 3) := by decide +kernel
theorem dX9_hand_15 : decode cX9_hand 15 = .ok (.getfield 60, 3) := by decide +kernel
theorem dX9_hand_18 : decode cX9_hand 18 = .ok (.iconst 4, 1) := by decide +kernel
theorem dX9_hand_19 : decode cX9_hand 19 = .ok (.if_icmp .lt 5, 3) := by decide +kernel
theorem dX9_hand_22 : decode cX9_hand 22 = .ok (.iconst (-1), 1) := by decide +kernel
theorem dX9_hand_23 : decode cX9_hand 23 = .ok (.ireturn, 1) := by decide +kernel
theorem dX9_hand_24 : decode cX9_hand 24 = .ok (.aload_n 0, 1) := by decide +kernel
theorem dX9_hand_25 : decode cX9_hand 25 = .ok (.getfield 12, 3) := by decide +kernel
theorem dX9_hand_28 : decode cX9_hand 28 = .ok (.getfield 64, 3) := by decide +kernel
theorem dX9_hand_31 : decode cX9_hand 31 = .ok (.aload_n 0, 1) := by decide +kernel
theorem dX9_hand_32 : decode cX9_hand 32 = .ok (.getfield 12, 3) := by decide +kernel
theorem dX9_hand_35 : decode cX9_hand 35 = .ok (.getfield 60, 3) := by decide +kernel
theorem dX9_hand_38 : decode cX9_hand 38 = .ok (.iload_n 1, 1) := by decide +kernel
theorem dX9_hand_39 : decode cX9_hand 39 = .ok (.iastore, 1) := by decide +kernel
theorem dX9_hand_40 : decode cX9_hand 40 = .ok (.aload_n 0, 1) := by decide +kernel
theorem dX9_hand_41 : decode cX9_hand 41 = .ok (.getfield 12, 3) := by decide +kernel
theorem dX9_hand_44 : decode cX9_hand 44 = .ok (.dup, 1) := by decide +kernel
theorem dX9_hand_45 : decode cX9_hand 45 = .ok (.getfield 60, 3) := by decide +kernel
theorem dX9_hand_48 : decode cX9_hand 48 = .ok (.iconst 1, 1) := by decide +kernel
theorem dX9_hand_49 : decode cX9_hand 49 = .ok (.iadd, 1) := by decide +kernel
theorem dX9_hand_50 : decode cX9_hand 50 = .ok (.putfield 60, 3) := by decide +kernel
theorem dX9_hand_53 : decode cX9_hand 53 = .ok (.aload_n 0, 1) := by decide +kernel
theorem dX9_hand_54 : decode cX9_hand 54 = .ok (.getfield 12, 3) := by decide +kernel
theorem dX9_hand_57 : decode cX9_hand 57 = .ok (.getfield 60, 3) := by decide +kernel
theorem dX9_hand_60 : decode cX9_hand 60 = .ok (.iconst 1, 1) := by decide +kernel
theorem dX9_hand_61 : decode cX9_hand 61 = .ok (.isub, 1) := by decide +kernel
theorem dX9_hand_62 : decode cX9_hand 62 = .ok (.ireturn, 1) := by decide +kernel
theorem dX9_dough_0 : decode cX9_dough 0 = .ok (.iload_n 1, 1) := by decide +kernel
theorem dX9_dough_1 : decode cX9_dough 1 = .ok (.invokestatic 68, 3) := by decide +kernel
theorem dX9_dough_4 : decode cX9_dough 4 = .ok (.ifCond .eq 14, 3) := by decide +kernel
theorem dX9_dough_7 : decode cX9_dough 7 = .ok (.iload_n 2, 1) := by decide +kernel
theorem dX9_dough_8 : decode cX9_dough 8 = .ok (.ifCond .lt 10, 3) := by decide +kernel
theorem dX9_dough_11 : decode cX9_dough 11 = .ok (.iload_n 2, 1) := by decide +kernel
theorem dX9_dough_12 : decode cX9_dough 12 = .ok (.sipush 999, 3) := by decide +kernel
theorem dX9_dough_15 : decode cX9_dough 15 = .ok (.if_icmp .le 5, 3) := by decide +kernel
theorem dX9_dough_18 : decode cX9_dough 18 = .ok (.iconst 0, 1) := by decide +kernel
theorem dX9_dough_19 : decode cX9_dough 19 = .ok (.ireturn, 1) := by decide +kernel
theorem dX9_dough_20 : decode cX9_dough 20 = .ok (.aload_n 0, 1) := by decide +kernel
theorem dX9_dough_21 : decode cX9_dough 21 = .ok (.getfield 12, 3) := by decide +kernel
theorem dX9_dough_24 : decode cX9_dough 24 = .ok (.iload_n 1, 1) := by decide +kernel
theorem dX9_dough_25 : decode cX9_dough 25 = .ok (.iload_n 2, 1) := by decide +kernel
theorem dX9_dough_26 : decode cX9_dough 26 = .ok (.invokevirtual 72, 3) := by decide +kernel
theorem dX9_dough_29 : decode cX9_dough 29 = .ok (.iconst 1, 1) := by decide +kernel
theorem dX9_dough_30 : decode cX9_dough 30 = .ok (.ireturn, 1) := by decide +kernel
theorem dX9_town_0 : decode cX9_town 0 = .ok (.iload_n 1, 1) := by decide +kernel
theorem dX9_town_1 : decode cX9_town 1 = .ok (.invokestatic 68, 3) := by decide +kernel
theorem dX9_town_4 : decode cX9_town 4 = .ok (.ifCond .eq 15, 3) := by decide +kernel
theorem dX9_town_7 : decode cX9_town 7 = .ok (.aload_n 0, 1) := by decide +kernel
theorem dX9_town_8 : decode cX9_town 8 = .ok (.getfield 12, 3) := by decide +kernel
theorem dX9_town_11 : decode cX9_town 11 = .ok (.getfield 76, 3) := by decide +kernel
theorem dX9_town_14 : decode cX9_town 14 = .ok (.bipush 6, 2) := by decide +kernel
theorem dX9_town_16 : decode cX9_town 16 = .ok (.if_icmp .lt 5, 3) := by decide +kernel
theorem dX9_town_19 : decode cX9_town 19 = .ok (.iconst (-1), 1) := by decide +kernel
theorem dX9_town_20 : decode cX9_town 20 = .ok (.ireturn, 1) := by decide +kernel
theorem dX9_town_21 : decode cX9_town 21 = .ok (.aload_n 0, 1) := by decide +kernel
theorem dX9_town_22 : decode cX9_town 22 = .ok (.getfield 12, 3) := by decide +kernel
theorem dX9_town_25 : decode cX9_town 25 = .ok (.iload_n 1, 1) := by decide +kernel
theorem dX9_town_26 : decode cX9_town 26 = .ok (.invokevirtual 79, 3) := by decide +kernel
theorem dX9_town_29 : decode cX9_town 29 = .ok (.aload_n 0, 1) := by decide +kernel
theorem dX9_town_30 : decode cX9_town 30 = .ok (.getfield 12, 3) := by decide +kernel
theorem dX9_town_33 : decode cX9_town 33 = .ok (.getfield 76, 3) := by decide +kernel
theorem dX9_town_36 : decode cX9_town 36 = .ok (.iconst 1, 1) := by decide +kernel
theorem dX9_town_37 : decode cX9_town 37 = .ok (.isub, 1) := by decide +kernel
theorem dX9_town_38 : decode cX9_town 38 = .ok (.ireturn, 1) := by decide +kernel
theorem dX9_feed_0 : decode cX9_feed 0 = .ok (.aload_n 0, 1) := by decide +kernel
theorem dX9_feed_1 : decode cX9_feed 1 = .ok (.getfield 47, 3) := by decide +kernel
theorem dX9_feed_4 : decode cX9_feed 4 = .ok (.bipush 20, 2) := by decide +kernel
theorem dX9_feed_6 : decode cX9_feed 6 = .ok (.invokevirtual 83, 3) := by decide +kernel
theorem dX9_feed_9 : decode cX9_feed 9 = .ok (.ifCond .ne 5, 3) := by decide +kernel
theorem dX9_feed_12 : decode cX9_feed 12 = .ok (.iconst (-1), 1) := by decide +kernel
theorem dX9_feed_13 : decode cX9_feed 13 = .ok (.ireturn, 1) := by decide +kernel
theorem dX9_feed_14 : decode cX9_feed 14 = .ok (.aload_n 0, 1) := by decide +kernel
theorem dX9_feed_15 : decode cX9_feed 15 = .ok (.getfield 47, 3) := by decide +kernel
theorem dX9_feed_18 : decode cX9_feed 18 = .ok (.iload_n 1, 1) := by decide +kernel
theorem dX9_feed_19 : decode cX9_feed 19 = .ok (.invokevirtual 86, 3) := by decide +kernel
theorem dX9_feed_22 : decode cX9_feed 22 = .ok (.aload_n 0, 1) := by decide +kernel
theorem dX9_feed_23 : decode cX9_feed 23 = .ok (.getfield 47, 3) := by decide +kernel
theorem dX9_feed_26 : decode cX9_feed 26 = .ok (.iload_n 2, 1) := by decide +kernel
theorem dX9_feed_27 : decode cX9_feed 27 = .ok (.invokevirtual 86, 3) := by decide +kernel
theorem dX9_feed_30 : decode cX9_feed 30 = .ok (.aload_n 0, 1) := by decide +kernel
theorem dX9_feed_31 : decode cX9_feed 31 = .ok (.getfield 47, 3) := by decide +kernel
theorem dX9_feed_34 : decode cX9_feed 34 = .ok (.iload_n 3, 1) := by decide +kernel
theorem dX9_feed_35 : decode cX9_feed 35 = .ok (.invokevirtual 86, 3) := by decide +kernel
theorem dX9_feed_38 : decode cX9_feed 38 = .ok (.aload_n 0, 1) := by decide +kernel
theorem dX9_feed_39 : decode cX9_feed 39 = .ok (.getfield 47, 3) := by decide +kernel
theorem dX9_feed_42 : decode cX9_feed 42 = .ok (.iload 4, 2) := by decide +kernel
theorem dX9_feed_44 : decode cX9_feed 44 = .ok (.invokevirtual 86, 3) := by decide +kernel
theorem dX9_feed_47 : decode cX9_feed 47 = .ok (.aload_n 0, 1) := by decide +kernel
theorem dX9_feed_48 : decode cX9_feed 48 = .ok (.getfield 47, 3) := by decide +kernel
theorem dX9_feed_51 : decode cX9_feed 51 = .ok (.iload 5, 2) := by decide +kernel
theorem dX9_feed_53 : decode cX9_feed 53 = .ok (.invokevirtual 86, 3) := by decide +kernel
theorem dX9_feed_56 : decode cX9_feed 56 = .ok (.aload_n 0, 1) := by decide +kernel
theorem dX9_feed_57 : decode cX9_feed 57 = .ok (.getfield 47, 3) := by decide +kernel
theorem dX9_feed_60 : decode cX9_feed 60 = .ok (.getfield 89, 3) := by decide +kernel
theorem dX9_feed_63 : decode cX9_feed 63 = .ok (.ireturn, 1) := by decide +kernel
theorem dX9_end_0 : decode cX9_end 0 = .ok (.iload_n 1, 1) := by decide +kernel
theorem dX9_end_1 : decode cX9_end 1 = .ok (.ifCond .lt 14, 3) := by decide +kernel
theorem dX9_end_4 : decode cX9_end 4 = .ok (.iload_n 1, 1) := by decide +kernel
theorem dX9_end_5 : decode cX9_end 5 = .ok (.aload_n 0, 1) := by decide +kernel
theorem dX9_end_6 : decode cX9_end 6 = .ok (.getfield 47, 3) := by decide +kernel
theorem dX9_end_9 : decode cX9_end 9 = .ok (.getfield 89, 3) := by decide +kernel
theorem dX9_end_12 : decode cX9_end 12 = .ok (.if_icmp .le 5, 3) := by decide +kernel
theorem dX9_end_15 : decode cX9_end 15 = .ok (.iconst (-1), 1) := by decide +kernel
theorem dX9_end_16 : decode cX9_end 16 = .ok (.ireturn, 1) := by decide +kernel
theorem dX9_end_17 : decode cX9_end 17 = .ok (.aload_n 0, 1) := by decide +kernel
theorem dX9_end_18 : decode cX9_end 18 = .ok (.getfield 47, 3) := by decide +kernel
theorem dX9_end_21 : decode cX9_end 21 = .ok (.iload_n 1, 1) := by decide +kernel
theorem dX9_end_22 : decode cX9_end 22 = .ok (.putfield 89, 3) := by decide +kernel
theorem dX9_end_25 : decode cX9_end 25 = .ok (.iload_n 1, 1) := by decide +kernel
theorem dX9_end_26 : decode cX9_end 26 = .ok (.ireturn, 1) := by decide +kernel
theorem dX9_text_0 : decode cX9_text 0 = .ok (.aload_n 0, 1) := by decide +kernel
theorem dX9_text_1 : decode cX9_text 1 = .ok (.getfield 12, 3) := by decide +kernel
theorem dX9_text_4 : decode cX9_text 4 = .ok (.getfield 92, 3) := by decide +kernel
theorem dX9_text_7 : decode cX9_text 7 = .ok (.iconst 4, 1) := by decide +kernel
theorem dX9_text_8 : decode cX9_text 8 = .ok (.if_icmp .lt 5, 3) := by decide +kernel
theorem dX9_text_11 : decode cX9_text 11 = .ok (.iconst (-1), 1) := by decide +kernel
theorem dX9_text_12 : decode cX9_text 12 = .ok (.ireturn, 1) := by decide +kernel
theorem dX9_text_13 : decode cX9_text 13 = .ok (.aload_n 0, 1) := by decide +kernel
theorem dX9_text_14 : decode cX9_text 14 = .ok (.getfield 56, 3) := by decide +kernel
theorem dX9_text_17 : decode cX9_text 17 = .ok (.invokevirtual 95, 3) := by decide +kernel
theorem dX9_text_20 : decode cX9_text 20 = .ok (.astore_n 1, 1) := by decide +kernel
theorem dX9_text_21 : decode cX9_text 21 = .ok (.aload_n 1, 1) := by decide +kernel
theorem dX9_text_22 : decode cX9_text 22 = .ok (.ifnonnull 5, 3) := by decide +kernel
theorem dX9_text_25 : decode cX9_text 25 = .ok (.iconst (-1), 1) := by decide +kernel
theorem dX9_text_26 : decode cX9_text 26 = .ok (.ireturn, 1) := by decide +kernel
theorem dX9_text_27 : decode cX9_text 27 = .ok (.aload_n 0, 1) := by decide +kernel
theorem dX9_text_28 : decode cX9_text 28 = .ok (.getfield 12, 3) := by decide +kernel
theorem dX9_text_31 : decode cX9_text 31 = .ok (.getfield 99, 3) := by decide +kernel
theorem dX9_text_34 : decode cX9_text 34 = .ok (.aload_n 0, 1) := by decide +kernel
theorem dX9_text_35 : decode cX9_text 35 = .ok (.getfield 12, 3) := by decide +kernel
theorem dX9_text_38 : decode cX9_text 38 = .ok (.getfield 92, 3) := by decide +kernel
theorem dX9_text_41 : decode cX9_text 41 = .ok (.aload_n 1, 1) := by decide +kernel
theorem dX9_text_42 : decode cX9_text 42 = .ok (.aastore, 1) := by decide +kernel
theorem dX9_text_43 : decode cX9_text 43 = .ok (.aload_n 0, 1) := by decide +kernel
theorem dX9_text_44 : decode cX9_text 44 = .ok (.getfield 12, 3) := by decide +kernel
theorem dX9_text_47 : decode cX9_text 47 = .ok (.dup, 1) := by decide +kernel
theorem dX9_text_48 : decode cX9_text 48 = .ok (.getfield 92, 3) := by decide +kernel
theorem dX9_text_51 : decode cX9_text 51 = .ok (.iconst 1, 1) := by decide +kernel
theorem dX9_text_52 : decode cX9_text 52 = .ok (.iadd, 1) := by decide +kernel
theorem dX9_text_53 : decode cX9_text 53 = .ok (.putfield 92, 3) := by decide +kernel
theorem dX9_text_56 : decode cX9_text 56 = .ok (.aload_n 0, 1) := by decide +kernel
theorem dX9_text_57 : decode cX9_text 57 = .ok (.getfield 12, 3) := by decide +kernel
theorem dX9_text_60 : decode cX9_text 60 = .ok (.getfield 92, 3) := by decide +kernel
theorem dX9_text_63 : decode cX9_text 63 = .ok (.iconst 1, 1) := by decide +kernel
theorem dX9_text_64 : decode cX9_text 64 = .ok (.isub, 1) := by decide +kernel
theorem dX9_text_65 : decode cX9_text 65 = .ok (.ireturn, 1) := by decide +kernel
theorem dX9_fault_0 : decode cX9_fault 0 = .ok (.aload_n 0, 1) := by decide +kernel
theorem dX9_fault_1 : decode cX9_fault 1 = .ok (.getfield 56, 3) := by decide +kernel
theorem dX9_fault_4 : decode cX9_fault 4 = .ok (.getfield 103, 3) := by decide +kernel
theorem dX9_fault_7 : decode cX9_fault 7 = .ok (.ifCond .ne 5, 3) := by decide +kernel
theorem dX9_fault_10 : decode cX9_fault 10 = .ok (.iconst (-1), 1) := by decide +kernel
theorem dX9_fault_11 : decode cX9_fault 11 = .ok (.ireturn, 1) := by decide +kernel
theorem dX9_fault_12 : decode cX9_fault 12 = .ok (.iload_n 1, 1) := by decide +kernel
theorem dX9_fault_13 : decode cX9_fault 13 = .ok (.ifCond .ne 13, 3) := by decide +kernel
theorem dX9_fault_16 : decode cX9_fault 16 = .ok (.aload_n 0, 1) := by decide +kernel
theorem dX9_fault_17 : decode cX9_fault 17 = .ok (.getfield 56, 3) := by decide +kernel
theorem dX9_fault_20 : decode cX9_fault 20 = .ok (.getfield 107, 3) := by decide +kernel
theorem dX9_fault_23 : decode cX9_fault 23 = .ok (.goto 19, 3) := by decide +kernel
theorem dX9_fault_26 : decode cX9_fault 26 = .ok (.iload_n 1, 1) := by decide +kernel
theorem dX9_fault_27 : decode cX9_fault 27 = .ok (.iconst 1, 1) := by decide +kernel
theorem dX9_fault_28 : decode cX9_fault 28 = .ok (.if_icmp .ne 13, 3) := by decide +kernel
theorem dX9_fault_31 : decode cX9_fault 31 = .ok (.aload_n 0, 1) := by decide +kernel
theorem dX9_fault_32 : decode cX9_fault 32 = .ok (.getfield 56, 3) := by decide +kernel
theorem dX9_fault_35 : decode cX9_fault 35 = .ok (.getfield 110, 3) := by decide +kernel
theorem dX9_fault_38 : decode cX9_fault 38 = .ok (.goto 4, 3) := by decide +kernel
theorem dX9_fault_41 : decode cX9_fault 41 = .ok (.iconst (-1), 1) := by decide +kernel
theorem dX9_fault_42 : decode cX9_fault 42 = .ok (.ireturn, 1) := by decide +kernel
theorem dX9_by_0 : decode cX9_by 0 = .ok (.iload_n 1, 1) := by decide +kernel
theorem dX9_by_1 : decode cX9_by 1 = .ok (.iconst (-1), 1) := by decide +kernel
theorem dX9_by_2 : decode cX9_by 2 = .ok (.if_icmp .eq 13, 3) := by decide +kernel
theorem dX9_by_5 : decode cX9_by 5 = .ok (.aload_n 0, 1) := by decide +kernel
theorem dX9_by_6 : decode cX9_by 6 = .ok (.iload_n 1, 1) := by decide +kernel
theorem dX9_by_7 : decode cX9_by 7 = .ok (.invokevirtual 113, 3) := by decide +kernel
theorem dX9_by_10 : decode cX9_by 10 = .ok (.ifCond .ne 5, 3) := by decide +kernel
theorem dX9_by_13 : decode cX9_by 13 = .ok (.iconst 0, 1) := by decide +kernel
theorem dX9_by_14 : decode cX9_by 14 = .ok (.ireturn, 1) := by decide +kernel
theorem dX9_by_15 : decode cX9_by 15 = .ok (.aload_n 0, 1) := by decide +kernel
theorem dX9_by_16 : decode cX9_by 16 = .ok (.getfield 12, 3) := by decide +kernel
theorem dX9_by_19 : decode cX9_by 19 = .ok (.iload_n 1, 1) := by decide +kernel
theorem dX9_by_20 : decode cX9_by 20 = .ok (.putfield 116, 3) := by decide +kernel
theorem dX9_by_23 : decode cX9_by 23 = .ok (.iconst 1, 1) := by decide +kernel
theorem dX9_by_24 : decode cX9_by 24 = .ok (.ireturn, 1) := by decide +kernel
theorem dX9_stroke_0 : decode cX9_stroke 0 = .ok (.aload_n 0, 1) := by decide +kernel
theorem dX9_stroke_1 : decode cX9_stroke 1 = .ok (.iload_n 1, 1) := by decide +kernel
theorem dX9_stroke_2 : decode cX9_stroke 2 = .ok (.invokevirtual 119, 3) := by decide +kernel
theorem dX9_stroke_5 : decode cX9_stroke 5 = .ok (.ifCond .eq 25, 3) := by decide +kernel
theorem dX9_stroke_8 : decode cX9_stroke 8 = .ok (.iload_n 2, 1) := by decide +kernel
theorem dX9_stroke_9 : decode cX9_stroke 9 = .ok (.invokestatic 68, 3) := by decide +kernel
theorem dX9_stroke_12 : decode cX9_stroke 12 = .ok (.ifCond .eq 18, 3) := by decide +kernel
theorem dX9_stroke_15 : decode cX9_stroke 15 = .ok (.aload_n 0, 1) := by decide +kernel
theorem dX9_stroke_16 : decode cX9_stroke 16 = .ok (.getfield 12, 3) := by decide +kernel
theorem dX9_stroke_19 : decode cX9_stroke 19 = .ok (.getfield 122, 3) := by decide +kernel
theorem dX9_stroke_22 : decode cX9_stroke 22 = .ok (.getfield 126, 3) := by decide +kernel
theorem dX9_stroke_25 : decode cX9_stroke 25 = .ok (.iload_n 2, 1) := by decide +kernel
theorem dX9_stroke_26 : decode cX9_stroke 26 = .ok (.iaload, 1) := by decide +kernel
theorem dX9_stroke_27 : decode cX9_stroke 27 = .ok (.ifCond .gt 5, 3) := by decide +kernel
theorem dX9_stroke_30 : decode cX9_stroke 30 = .ok (.iconst (-1), 1) := by decide +kernel
theorem dX9_stroke_31 : decode cX9_stroke 31 = .ok (.ireturn, 1) := by decide +kernel
theorem dX9_stroke_32 : decode cX9_stroke 32 = .ok (.aload_n 0, 1) := by decide +kernel
theorem dX9_stroke_33 : decode cX9_stroke 33 = .ok (.getfield 12, 3) := by decide +kernel
theorem dX9_stroke_36 : decode cX9_stroke 36 = .ok (.invokevirtual 131, 3) := by decide +kernel
theorem dX9_stroke_39 : decode cX9_stroke 39 = .ok (.aload_n 0, 1) := by decide +kernel
theorem dX9_stroke_40 : decode cX9_stroke 40 = .ok (.getfield 24, 3) := by decide +kernel
theorem dX9_stroke_43 : decode cX9_stroke 43 = .ok (.aload_n 0, 1) := by decide +kernel
theorem dX9_stroke_44 : decode cX9_stroke 44 = .ok (.getfield 12, 3) := by decide +kernel
theorem dX9_stroke_47 : decode cX9_stroke 47 = .ok (.getfield 122, 3) := by decide +kernel
theorem dX9_stroke_50 : decode cX9_stroke 50 = .ok (.iload_n 1, 1) := by decide +kernel
theorem dX9_stroke_51 : decode cX9_stroke 51 = .ok (.iload_n 2, 1) := by decide +kernel
theorem dX9_stroke_52 : decode cX9_stroke 52 = .ok (.iload_n 3, 1) := by decide +kernel
theorem dX9_stroke_53 : decode cX9_stroke 53 = .ok (.invokevirtual 134, 3) := by decide +kernel
theorem dX9_stroke_56 : decode cX9_stroke 56 = .ok (.ireturn, 1) := by decide +kernel
theorem dX9_trim_0 : decode cX9_trim 0 = .ok (.aload_n 0, 1) := by decide +kernel
theorem dX9_trim_1 : decode cX9_trim 1 = .ok (.getfield 12, 3) := by decide +kernel
theorem dX9_trim_4 : decode cX9_trim 4 = .ok (.getfield 122, 3) := by decide +kernel
theorem dX9_trim_7 : decode cX9_trim 7 = .ok (.getfield 138, 3) := by decide +kernel
theorem dX9_trim_10 : decode cX9_trim 10 = .ok (.istore_n 1, 1) := by decide +kernel
theorem dX9_trim_11 : decode cX9_trim 11 = .ok (.iload_n 1, 1) := by decide +kernel
theorem dX9_trim_12 : decode cX9_trim 12 = .ok (.ifCond .gt 5, 3) := by decide +kernel
theorem dX9_trim_15 : decode cX9_trim 15 = .ok (.iconst (-1), 1) := by decide +kernel
theorem dX9_trim_16 : decode cX9_trim 16 = .ok (.ireturn, 1) := by decide +kernel
theorem dX9_trim_17 : decode cX9_trim 17 = .ok (.aload_n 0, 1) := by decide +kernel
theorem dX9_trim_18 : decode cX9_trim 18 = .ok (.getfield 12, 3) := by decide +kernel
theorem dX9_trim_21 : decode cX9_trim 21 = .ok (.invokevirtual 131, 3) := by decide +kernel
theorem dX9_trim_24 : decode cX9_trim 24 = .ok (.aload_n 0, 1) := by decide +kernel
theorem dX9_trim_25 : decode cX9_trim 25 = .ok (.getfield 12, 3) := by decide +kernel
theorem dX9_trim_28 : decode cX9_trim 28 = .ok (.getfield 122, 3) := by decide +kernel
theorem dX9_trim_31 : decode cX9_trim 31 = .ok (.invokevirtual 141, 3) := by decide +kernel
theorem dX9_trim_34 : decode cX9_trim 34 = .ok (.iload_n 1, 1) := by decide +kernel
theorem dX9_trim_35 : decode cX9_trim 35 = .ok (.ireturn, 1) := by decide +kernel
theorem dX9_patch_0 : decode cX9_patch 0 = .ok (.iload_n 1, 1) := by decide +kernel
theorem dX9_patch_1 : decode cX9_patch 1 = .ok (.invokestatic 68, 3) := by decide +kernel
theorem dX9_patch_4 : decode cX9_patch 4 = .ok (.ifCond .eq 29, 3) := by decide +kernel
theorem dX9_patch_7 : decode cX9_patch 7 = .ok (.iload_n 2, 1) := by decide +kernel
theorem dX9_patch_8 : decode cX9_patch 8 = .ok (.iconst 1, 1) := by decide +kernel
theorem dX9_patch_9 : decode cX9_patch 9 = .ok (.if_icmp .lt 24, 3) := by decide +kernel
theorem dX9_patch_12 : decode cX9_patch 12 = .ok (.iload_n 2, 1) := by decide +kernel
theorem dX9_patch_13 : decode cX9_patch 13 = .ok (.bipush 99, 2) := by decide +kernel
theorem dX9_patch_15 : decode cX9_patch 15 = .ok (.if_icmp .gt 18, 3) := by decide +kernel
theorem dX9_patch_18 : decode cX9_patch 18 = .ok (.aload_n 0, 1) := by decide +kernel
theorem dX9_patch_19 : decode cX9_patch 19 = .ok (.getfield 12, 3) := by decide +kernel
theorem dX9_patch_22 : decode cX9_patch 22 = .ok (.getfield 122, 3) := by decide +kernel
theorem dX9_patch_25 : decode cX9_patch 25 = .ok (.iload_n 1, 1) := by decide +kernel
theorem dX9_patch_26 : decode cX9_patch 26 = .ok (.iload_n 2, 1) := by decide +kernel
theorem dX9_patch_27 : decode cX9_patch 27 = .ok (.invokevirtual 144, 3) := by decide +kernel
theorem dX9_patch_30 : decode cX9_patch 30 = .ok (.ifCond .ne 5, 3) := by decide +kernel
theorem dX9_patch_33 : decode cX9_patch 33 = .ok (.iconst 0, 1) := by decide +kernel
theorem dX9_patch_34 : decode cX9_patch 34 = .ok (.ireturn, 1) := by decide +kernel
theorem dX9_patch_35 : decode cX9_patch 35 = .ok (.aload_n 0, 1) := by decide +kernel
theorem dX9_patch_36 : decode cX9_patch 36 = .ok (.getfield 12, 3) := by decide +kernel
theorem dX9_patch_39 : decode cX9_patch 39 = .ok (.invokevirtual 131, 3) := by decide +kernel
theorem dX9_patch_42 : decode cX9_patch 42 = .ok (.aload_n 0, 1) := by decide +kernel
theorem dX9_patch_43 : decode cX9_patch 43 = .ok (.getfield 12, 3) := by decide +kernel
theorem dX9_patch_46 : decode cX9_patch 46 = .ok (.getfield 122, 3) := by decide +kernel
theorem dX9_patch_49 : decode cX9_patch 49 = .ok (.iload_n 1, 1) := by decide +kernel
theorem dX9_patch_50 : decode cX9_patch 50 = .ok (.iload_n 2, 1) := by decide +kernel
theorem dX9_patch_51 : decode cX9_patch 51 = .ok (.invokevirtual 148, 3) := by decide +kernel
theorem dX9_patch_54 : decode cX9_patch 54 = .ok (.iconst 1, 1) := by decide +kernel
theorem dX9_patch_55 : decode cX9_patch 55 = .ok (.ireturn, 1) := by decide +kernel
theorem dX9_roll_0 : decode cX9_roll 0 = .ok (.iload_n 1, 1) := by decide +kernel
theorem dX9_roll_1 : decode cX9_roll 1 = .ok (.iconst 1, 1) := by decide +kernel
theorem dX9_roll_2 : decode cX9_roll 2 = .ok (.if_icmp .lt 27, 3) := by decide +kernel
theorem dX9_roll_5 : decode cX9_roll 5 = .ok (.iload_n 1, 1) := by decide +kernel
theorem dX9_roll_6 : decode cX9_roll 6 = .ok (.bipush 60, 2) := by decide +kernel
theorem dX9_roll_8 : decode cX9_roll 8 = .ok (.if_icmp .gt 21, 3) := by decide +kernel
theorem dX9_roll_11 : decode cX9_roll 11 = .ok (.iload_n 1, 1) := by decide +kernel
theorem dX9_roll_12 : decode cX9_roll 12 = .ok (.sipush 9999, 3) := by decide +kernel
theorem dX9_roll_15 : decode cX9_roll 15 = .ok (.aload_n 0, 1) := by decide +kernel
theorem dX9_roll_16 : decode cX9_roll 16 = .ok (.getfield 12, 3) := by decide +kernel
theorem dX9_roll_19 : decode cX9_roll 19 = .ok (.getfield 122, 3) := by decide +kernel
theorem dX9_roll_22 : decode cX9_roll 22 = .ok (.getfield 151, 3) := by decide +kernel
theorem dX9_roll_25 : decode cX9_roll 25 = .ok (.isub, 1) := by decide +kernel
theorem dX9_roll_26 : decode cX9_roll 26 = .ok (.if_icmp .le 5, 3) := by decide +kernel
theorem dX9_roll_29 : decode cX9_roll 29 = .ok (.iconst (-1), 1) := by decide +kernel
theorem dX9_roll_30 : decode cX9_roll 30 = .ok (.ireturn, 1) := by decide +kernel
theorem dX9_roll_31 : decode cX9_roll 31 = .ok (.aload_n 0, 1) := by decide +kernel
theorem dX9_roll_32 : decode cX9_roll 32 = .ok (.getfield 12, 3) := by decide +kernel
theorem dX9_roll_35 : decode cX9_roll 35 = .ok (.getfield 122, 3) := by decide +kernel
theorem dX9_roll_38 : decode cX9_roll 38 = .ok (.getfield 154, 3) := by decide +kernel
theorem dX9_roll_41 : decode cX9_roll 41 = .ok (.istore_n 2, 1) := by decide +kernel
theorem dX9_roll_42 : decode cX9_roll 42 = .ok (.aload_n 0, 1) := by decide +kernel
theorem dX9_roll_43 : decode cX9_roll 43 = .ok (.iload_n 1, 1) := by decide +kernel
theorem dX9_roll_44 : decode cX9_roll 44 = .ok (.invokevirtual 157, 3) := by decide +kernel
theorem dX9_roll_47 : decode cX9_roll 47 = .ok (.pop, 1) := by decide +kernel
theorem dX9_roll_48 : decode cX9_roll 48 = .ok (.aload_n 0, 1) := by decide +kernel
theorem dX9_roll_49 : decode cX9_roll 49 = .ok (.getfield 12, 3) := by decide +kernel
theorem dX9_roll_52 : decode cX9_roll 52 = .ok (.getfield 122, 3) := by decide +kernel
theorem dX9_roll_55 : decode cX9_roll 55 = .ok (.getfield 154, 3) := by decide +kernel
theorem dX9_roll_58 : decode cX9_roll 58 = .ok (.iload_n 2, 1) := by decide +kernel
theorem dX9_roll_59 : decode cX9_roll 59 = .ok (.iconst (-1), 1) := by decide +kernel
theorem dX9_roll_60 : decode cX9_roll 60 = .ok (.ixor, 1) := by decide +kernel
theorem dX9_roll_61 : decode cX9_roll 61 = .ok (.iand, 1) := by decide +kernel
theorem dX9_roll_62 : decode cX9_roll 62 = .ok (.invokestatic 161, 3) := by decide +kernel
theorem dX9_roll_65 : decode cX9_roll 65 = .ok (.ireturn, 1) := by decide +kernel
theorem dX9_played_0 : decode cX9_played 0 = .ok (.aload_n 0, 1) := by decide +kernel
theorem dX9_played_1 : decode cX9_played 1 = .ok (.iload_n 1, 1) := by decide +kernel
theorem dX9_played_2 : decode cX9_played 2 = .ok (.invokevirtual 113, 3) := by decide +kernel
theorem dX9_played_5 : decode cX9_played 5 = .ok (.ifCond .ne 6, 3) := by decide +kernel
theorem dX9_played_8 : decode cX9_played 8 = .ok (.bipush (-2), 2) := by decide +kernel
theorem dX9_played_10 : decode cX9_played 10 = .ok (.ireturn, 1) := by decide +kernel
theorem dX9_played_11 : decode cX9_played 11 = .ok (.aload_n 0, 1) := by decide +kernel
theorem dX9_played_12 : decode cX9_played 12 = .ok (.getfield 12, 3) := by decide +kernel
theorem dX9_played_15 : decode cX9_played 15 = .ok (.getfield 99, 3) := by decide +kernel
theorem dX9_played_18 : decode cX9_played 18 = .ok (.iload_n 1, 1) := by decide +kernel
theorem dX9_played_19 : decode cX9_played 19 = .ok (.aaload, 1) := by decide +kernel
theorem dX9_played_20 : decode cX9_played 20 = .ok (.getfield 166, 3) := by decide +kernel
theorem dX9_played_23 : decode cX9_played 23 = .ok (.astore_n 2, 1) := by decide +kernel
theorem dX9_played_24 : decode cX9_played 24 = .ok (.iconst 0, 1) := by decide +kernel
theorem dX9_played_25 : decode cX9_played 25 = .ok (.istore_n 3, 1) := by decide +kernel
theorem dX9_played_26 : decode cX9_played 26 = .ok (.iload_n 3, 1) := by decide +kernel
theorem dX9_played_27 : decode cX9_played 27 = .ok (.iconst 2, 1) := by decide +kernel
theorem dX9_played_28 : decode cX9_played 28 = .ok (.iadd, 1) := by decide +kernel
theorem dX9_played_29 : decode cX9_played 29 = .ok (.aload_n 2, 1) := by decide +kernel
theorem dX9_played_30 : decode cX9_played 30 = .ok (.arraylength, 1) := by decide +kernel
theorem dX9_played_31 : decode cX9_played 31 = .ok (.if_icmp .ge 33, 3) := by decide +kernel
theorem dX9_played_34 : decode cX9_played 34 = .ok (.aload_n 0, 1) := by decide +kernel
theorem dX9_played_35 : decode cX9_played 35 = .ok (.aload_n 2, 1) := by decide +kernel
theorem dX9_played_36 : decode cX9_played 36 = .ok (.iload_n 3, 1) := by decide +kernel
theorem dX9_played_37 : decode cX9_played 37 = .ok (.iaload, 1) := by decide +kernel
theorem dX9_played_38 : decode cX9_played 38 = .ok (.aload_n 2, 1) := by decide +kernel
theorem dX9_played_39 : decode cX9_played 39 = .ok (.iload_n 3, 1) := by decide +kernel
theorem dX9_played_40 : decode cX9_played 40 = .ok (.iconst 1, 1) := by decide +kernel
theorem dX9_played_41 : decode cX9_played 41 = .ok (.iadd, 1) := by decide +kernel
theorem dX9_played_42 : decode cX9_played 42 = .ok (.iaload, 1) := by decide +kernel
theorem dX9_played_43 : decode cX9_played 43 = .ok (.aload_n 2, 1) := by decide +kernel
theorem dX9_played_44 : decode cX9_played 44 = .ok (.iload_n 3, 1) := by decide +kernel
theorem dX9_played_45 : decode cX9_played 45 = .ok (.iconst 2, 1) := by decide +kernel
theorem dX9_played_46 : decode cX9_played 46 = .ok (.iadd, 1) := by decide +kernel
theorem dX9_played_47 : decode cX9_played 47 = .ok (.iaload, 1) := by decide +kernel
theorem dX9_played_48 : decode cX9_played 48 = .ok (.invokevirtual 171, 3) := by decide +kernel
theorem dX9_played_51 : decode cX9_played 51 = .ok (.ifCond .ne 7, 3) := by decide +kernel
theorem dX9_played_54 : decode cX9_played 54 = .ok (.iload_n 3, 1) := by decide +kernel
theorem dX9_played_55 : decode cX9_played 55 = .ok (.iconst 3, 1) := by decide +kernel
theorem dX9_played_56 : decode cX9_played 56 = .ok (.idiv, 1) := by decide +kernel
theorem dX9_played_57 : decode cX9_played 57 = .ok (.ireturn, 1) := by decide +kernel
theorem dX9_played_58 : decode cX9_played 58 = .ok (.iinc 3 3, 3) := by decide +kernel
theorem dX9_played_61 : decode cX9_played 61 = .ok (.goto (-35), 3) := by decide +kernel
theorem dX9_played_64 : decode cX9_played 64 = .ok (.iconst (-1), 1) := by decide +kernel
theorem dX9_played_65 : decode cX9_played 65 = .ok (.ireturn, 1) := by decide +kernel
theorem dX9_years_0 : decode cX9_years 0 = .ok (.iload_n 1, 1) := by decide +kernel
theorem dX9_years_1 : decode cX9_years 1 = .ok (.ifCond .lt 21, 3) := by decide +kernel
theorem dX9_years_4 : decode cX9_years 4 = .ok (.iload_n 1, 1) := by decide +kernel
theorem dX9_years_5 : decode cX9_years 5 = .ok (.sipush 9999, 3) := by decide +kernel
theorem dX9_years_8 : decode cX9_years 8 = .ok (.if_icmp .gt 14, 3) := by decide +kernel
theorem dX9_years_11 : decode cX9_years 11 = .ok (.iload_n 2, 1) := by decide +kernel
theorem dX9_years_12 : decode cX9_years 12 = .ok (.iconst 1, 1) := by decide +kernel
theorem dX9_years_13 : decode cX9_years 13 = .ok (.if_icmp .lt 9, 3) := by decide +kernel
theorem dX9_years_16 : decode cX9_years 16 = .ok (.iload_n 2, 1) := by decide +kernel
theorem dX9_years_17 : decode cX9_years 17 = .ok (.bipush 40, 2) := by decide +kernel
theorem dX9_years_19 : decode cX9_years 19 = .ok (.if_icmp .le 5, 3) := by decide +kernel
theorem dX9_years_22 : decode cX9_years 22 = .ok (.iconst (-1), 1) := by decide +kernel
theorem dX9_years_23 : decode cX9_years 23 = .ok (.ireturn, 1) := by decide +kernel
theorem dX9_years_24 : decode cX9_years 24 = .ok (.aload_n 0, 1) := by decide +kernel
theorem dX9_years_25 : decode cX9_years 25 = .ok (.getfield 12, 3) := by decide +kernel
theorem dX9_years_28 : decode cX9_years 28 = .ok (.invokevirtual 131, 3) := by decide +kernel
theorem dX9_years_31 : decode cX9_years 31 = .ok (.aload_n 0, 1) := by decide +kernel
theorem dX9_years_32 : decode cX9_years 32 = .ok (.getfield 12, 3) := by decide +kernel
theorem dX9_years_35 : decode cX9_years 35 = .ok (.getfield 122, 3) := by decide +kernel
theorem dX9_years_38 : decode cX9_years 38 = .ok (.iload_n 1, 1) := by decide +kernel
theorem dX9_years_39 : decode cX9_years 39 = .ok (.iconst 2, 1) := by decide +kernel
theorem dX9_years_40 : decode cX9_years 40 = .ok (.imul, 1) := by decide +kernel
theorem dX9_years_41 : decode cX9_years 41 = .ok (.sipush 281, 3) := by decide +kernel
theorem dX9_years_44 : decode cX9_years 44 = .ok (.iadd, 1) := by decide +kernel
theorem dX9_years_45 : decode cX9_years 45 = .ok (.putfield 175, 3) := by decide +kernel
theorem dX9_years_48 : decode cX9_years 48 = .ok (.iconst 0, 1) := by decide +kernel
theorem dX9_years_49 : decode cX9_years 49 = .ok (.istore_n 3, 1) := by decide +kernel
theorem dX9_years_50 : decode cX9_years 50 = .ok (.iload_n 3, 1) := by decide +kernel
theorem dX9_years_51 : decode cX9_years 51 = .ok (.iload_n 2, 1) := by decide +kernel
theorem dX9_years_52 : decode cX9_years 52 = .ok (.if_icmp .ge 23, 3) := by decide +kernel
theorem dX9_years_55 : decode cX9_years 55 = .ok (.aload_n 0, 1) := by decide +kernel
theorem dX9_years_56 : decode cX9_years 56 = .ok (.getfield 24, 3) := by decide +kernel
theorem dX9_years_59 : decode cX9_years 59 = .ok (.aload_n 0, 1) := by decide +kernel
theorem dX9_years_60 : decode cX9_years 60 = .ok (.getfield 12, 3) := by decide +kernel
theorem dX9_years_63 : decode cX9_years 63 = .ok (.getfield 122, 3) := by decide +kernel
theorem dX9_years_66 : decode cX9_years 66 = .ok (.invokevirtual 178, 3) := by decide +kernel
theorem dX9_years_69 : decode cX9_years 69 = .ok (.iinc 3 1, 3) := by decide +kernel
theorem dX9_years_72 : decode cX9_years 72 = .ok (.goto (-22), 3) := by decide +kernel
theorem dX9_years_75 : decode cX9_years 75 = .ok (.aload_n 0, 1) := by decide +kernel
theorem dX9_years_76 : decode cX9_years 76 = .ok (.getfield 12, 3) := by decide +kernel
theorem dX9_years_79 : decode cX9_years 79 = .ok (.getfield 122, 3) := by decide +kernel
theorem dX9_years_82 : decode cX9_years 82 = .ok (.getfield 151, 3) := by decide +kernel
theorem dX9_years_85 : decode cX9_years 85 = .ok (.ireturn, 1) := by decide +kernel
theorem dX9_undo_0 : decode cX9_undo 0 = .ok (.aload_n 0, 1) := by decide +kernel
theorem dX9_undo_1 : decode cX9_undo 1 = .ok (.getfield 12, 3) := by decide +kernel
theorem dX9_undo_4 : decode cX9_undo 4 = .ok (.invokevirtual 182, 3) := by decide +kernel
theorem dX9_undo_7 : decode cX9_undo 7 = .ok (.ireturn, 1) := by decide +kernel
theorem dX9_of_0 : decode cX9_of 0 = .ok (.iload_n 1, 1) := by decide +kernel
theorem dX9_of_1 : decode cX9_of 1 = .ok (.invokestatic 68, 3) := by decide +kernel
theorem dX9_of_4 : decode cX9_of 4 = .ok (.ifCond .ne 5, 3) := by decide +kernel
theorem dX9_of_7 : decode cX9_of 7 = .ok (.iconst (-1), 1) := by decide +kernel
theorem dX9_of_8 : decode cX9_of 8 = .ok (.ireturn, 1) := by decide +kernel
theorem dX9_of_9 : decode cX9_of 9 = .ok (.iload_n 2, 1) := by decide +kernel
theorem dX9_of_10 : decode cX9_of 10 = .ok (.tableswitch 86 0 3 #[30, 43, 58, 70], 30) := by decide +kernel
theorem dX9_of_40 : decode cX9_of 40 = .ok (.aload_n 0, 1) := by decide +kernel
theorem dX9_of_41 : decode cX9_of 41 = .ok (.getfield 12, 3) := by decide +kernel
theorem dX9_of_44 : decode cX9_of 44 = .ok (.getfield 122, 3) := by decide +kernel
theorem dX9_of_47 : decode cX9_of 47 = .ok (.getfield 126, 3) := by decide +kernel
theorem dX9_of_50 : decode cX9_of 50 = .ok (.iload_n 1, 1) := by decide +kernel
theorem dX9_of_51 : decode cX9_of 51 = .ok (.iaload, 1) := by decide +kernel
theorem dX9_of_52 : decode cX9_of 52 = .ok (.ireturn, 1) := by decide +kernel
theorem dX9_of_53 : decode cX9_of 53 = .ok (.aload_n 0, 1) := by decide +kernel
theorem dX9_of_54 : decode cX9_of 54 = .ok (.getfield 12, 3) := by decide +kernel
theorem dX9_of_57 : decode cX9_of 57 = .ok (.getfield 122, 3) := by decide +kernel
theorem dX9_of_60 : decode cX9_of 60 = .ok (.getfield 154, 3) := by decide +kernel
theorem dX9_of_63 : decode cX9_of 63 = .ok (.iload_n 1, 1) := by decide +kernel
theorem dX9_of_64 : decode cX9_of 64 = .ok (.ishr, 1) := by decide +kernel
theorem dX9_of_65 : decode cX9_of 65 = .ok (.iconst 1, 1) := by decide +kernel
theorem dX9_of_66 : decode cX9_of 66 = .ok (.iand, 1) := by decide +kernel
theorem dX9_of_67 : decode cX9_of 67 = .ok (.ireturn, 1) := by decide +kernel
theorem dX9_of_68 : decode cX9_of 68 = .ok (.aload_n 0, 1) := by decide +kernel
theorem dX9_of_69 : decode cX9_of 69 = .ok (.getfield 12, 3) := by decide +kernel
theorem dX9_of_72 : decode cX9_of 72 = .ok (.getfield 122, 3) := by decide +kernel
theorem dX9_of_75 : decode cX9_of 75 = .ok (.iload_n 1, 1) := by decide +kernel
theorem dX9_of_76 : decode cX9_of 76 = .ok (.invokevirtual 186, 3) := by decide +kernel
theorem dX9_of_79 : decode cX9_of 79 = .ok (.ireturn, 1) := by decide +kernel
theorem dX9_of_80 : decode cX9_of 80 = .ok (.aload_n 0, 1) := by decide +kernel
theorem dX9_of_81 : decode cX9_of 81 = .ok (.getfield 24, 3) := by decide +kernel
theorem dX9_of_84 : decode cX9_of 84 = .ok (.aload_n 0, 1) := by decide +kernel
theorem dX9_of_85 : decode cX9_of 85 = .ok (.getfield 12, 3) := by decide +kernel
theorem dX9_of_88 : decode cX9_of 88 = .ok (.getfield 122, 3) := by decide +kernel
theorem dX9_of_91 : decode cX9_of 91 = .ok (.iload_n 1, 1) := by decide +kernel
theorem dX9_of_92 : decode cX9_of 92 = .ok (.invokevirtual 189, 3) := by decide +kernel
theorem dX9_of_95 : decode cX9_of 95 = .ok (.ireturn, 1) := by decide +kernel
theorem dX9_of_96 : decode cX9_of 96 = .ok (.iconst (-1), 1) := by decide +kernel
theorem dX9_of_97 : decode cX9_of 97 = .ok (.ireturn, 1) := by decide +kernel
theorem dX9_ofTown_0 : decode cX9_ofTown 0 = .ok (.aload_n 0, 1) := by decide +kernel
theorem dX9_ofTown_1 : decode cX9_ofTown 1 = .ok (.iload_n 1, 1) := by decide +kernel
theorem dX9_ofTown_2 : decode cX9_ofTown 2 = .ok (.invokevirtual 193, 3) := by decide +kernel
theorem dX9_ofTown_5 : decode cX9_ofTown 5 = .ok (.ifCond .eq 18, 3) := by decide +kernel
theorem dX9_ofTown_8 : decode cX9_ofTown 8 = .ok (.aload_n 0, 1) := by decide +kernel
theorem dX9_ofTown_9 : decode cX9_ofTown 9 = .ok (.getfield 12, 3) := by decide +kernel
theorem dX9_ofTown_12 : decode cX9_ofTown 12 = .ok (.getfield 122, 3) := by decide +kernel
theorem dX9_ofTown_15 : decode cX9_ofTown 15 = .ok (.getfield 196, 3) := by decide +kernel
theorem dX9_ofTown_18 : decode cX9_ofTown 18 = .ok (.iload_n 1, 1) := by decide +kernel
theorem dX9_ofTown_19 : decode cX9_ofTown 19 = .ok (.iaload, 1) := by decide +kernel
theorem dX9_ofTown_20 : decode cX9_ofTown 20 = .ok (.goto 5, 3) := by decide +kernel
theorem dX9_ofTown_23 : decode cX9_ofTown 23 = .ok (.bipush (-2), 2) := by decide +kernel
theorem dX9_ofTown_25 : decode cX9_ofTown 25 = .ok (.ireturn, 1) := by decide +kernel
theorem dX9_ofHand_0 : decode cX9_ofHand 0 = .ok (.aload_n 0, 1) := by decide +kernel
theorem dX9_ofHand_1 : decode cX9_ofHand 1 = .ok (.iload_n 1, 1) := by decide +kernel
theorem dX9_ofHand_2 : decode cX9_ofHand 2 = .ok (.invokevirtual 119, 3) := by decide +kernel
theorem dX9_ofHand_5 : decode cX9_ofHand 5 = .ok (.ifCond .eq 15, 3) := by decide +kernel
theorem dX9_ofHand_8 : decode cX9_ofHand 8 = .ok (.aload_n 0, 1) := by decide +kernel
theorem dX9_ofHand_9 : decode cX9_ofHand 9 = .ok (.getfield 12, 3) := by decide +kernel
theorem dX9_ofHand_12 : decode cX9_ofHand 12 = .ok (.getfield 64, 3) := by decide +kernel
theorem dX9_ofHand_15 : decode cX9_ofHand 15 = .ok (.iload_n 1, 1) := by decide +kernel
theorem dX9_ofHand_16 : decode cX9_ofHand 16 = .ok (.iaload, 1) := by decide +kernel
theorem dX9_ofHand_17 : decode cX9_ofHand 17 = .ok (.goto 4, 3) := by decide +kernel
theorem dX9_ofHand_20 : decode cX9_ofHand 20 = .ok (.iconst (-1), 1) := by decide +kernel
theorem dX9_ofHand_21 : decode cX9_ofHand 21 = .ok (.ireturn, 1) := by decide +kernel
theorem dX9_moves_0 : decode cX9_moves 0 = .ok (.aload_n 0, 1) := by decide +kernel
theorem dX9_moves_1 : decode cX9_moves 1 = .ok (.iload_n 1, 1) := by decide +kernel
theorem dX9_moves_2 : decode cX9_moves 2 = .ok (.invokevirtual 119, 3) := by decide +kernel
theorem dX9_moves_5 : decode cX9_moves 5 = .ok (.ifCond .eq 10, 3) := by decide +kernel
theorem dX9_moves_8 : decode cX9_moves 8 = .ok (.iload_n 2, 1) := by decide +kernel
theorem dX9_moves_9 : decode cX9_moves 9 = .ok (.invokestatic 68, 3) := by decide +kernel
theorem dX9_moves_12 : decode cX9_moves 12 = .ok (.ifCond .ne 5, 3) := by decide +kernel
theorem dX9_moves_15 : decode cX9_moves 15 = .ok (.iconst (-1), 1) := by decide +kernel
theorem dX9_moves_16 : decode cX9_moves 16 = .ok (.ireturn, 1) := by decide +kernel
theorem dX9_moves_17 : decode cX9_moves 17 = .ok (.aload_n 0, 1) := by decide +kernel
theorem dX9_moves_18 : decode cX9_moves 18 = .ok (.getfield 24, 3) := by decide +kernel
theorem dX9_moves_21 : decode cX9_moves 21 = .ok (.aload_n 0, 1) := by decide +kernel
theorem dX9_moves_22 : decode cX9_moves 22 = .ok (.getfield 12, 3) := by decide +kernel
theorem dX9_moves_25 : decode cX9_moves 25 = .ok (.aload_n 0, 1) := by decide +kernel
theorem dX9_moves_26 : decode cX9_moves 26 = .ok (.getfield 12, 3) := by decide +kernel
theorem dX9_moves_29 : decode cX9_moves 29 = .ok (.getfield 116, 3) := by decide +kernel
theorem dX9_moves_32 : decode cX9_moves 32 = .ok (.invokevirtual 199, 3) := by decide +kernel
theorem dX9_moves_35 : decode cX9_moves 35 = .ok (.aload_n 0, 1) := by decide +kernel
theorem dX9_moves_36 : decode cX9_moves 36 = .ok (.getfield 12, 3) := by decide +kernel
theorem dX9_moves_39 : decode cX9_moves 39 = .ok (.getfield 122, 3) := by decide +kernel
theorem dX9_moves_42 : decode cX9_moves 42 = .ok (.iload_n 1, 1) := by decide +kernel
theorem dX9_moves_43 : decode cX9_moves 43 = .ok (.iload_n 2, 1) := by decide +kernel
theorem dX9_moves_44 : decode cX9_moves 44 = .ok (.iload_n 3, 1) := by decide +kernel
theorem dX9_moves_45 : decode cX9_moves 45 = .ok (.invokevirtual 203, 3) := by decide +kernel
theorem dX9_moves_48 : decode cX9_moves 48 = .ok (.ireturn, 1) := by decide +kernel
theorem dX9_is_0 : decode cX9_is 0 = .ok (.iload_n 1, 1) := by decide +kernel
theorem dX9_is_1 : decode cX9_is 1 = .ok (.tableswitch 111 0 5 #[39, 50, 61, 72, 83, 94], 39) := by decide +kernel
theorem dX9_is_40 : decode cX9_is 40 = .ok (.aload_n 0, 1) := by decide +kernel
theorem dX9_is_41 : decode cX9_is 41 = .ok (.getfield 12, 3) := by decide +kernel
theorem dX9_is_44 : decode cX9_is 44 = .ok (.getfield 122, 3) := by decide +kernel
theorem dX9_is_47 : decode cX9_is 47 = .ok (.getfield 151, 3) := by decide +kernel
theorem dX9_is_50 : decode cX9_is 50 = .ok (.ireturn, 1) := by decide +kernel
theorem dX9_is_51 : decode cX9_is 51 = .ok (.aload_n 0, 1) := by decide +kernel
theorem dX9_is_52 : decode cX9_is 52 = .ok (.getfield 12, 3) := by decide +kernel
theorem dX9_is_55 : decode cX9_is 55 = .ok (.getfield 122, 3) := by decide +kernel
theorem dX9_is_58 : decode cX9_is 58 = .ok (.getfield 175, 3) := by decide +kernel
theorem dX9_is_61 : decode cX9_is 61 = .ok (.ireturn, 1) := by decide +kernel
theorem dX9_is_62 : decode cX9_is 62 = .ok (.aload_n 0, 1) := by decide +kernel
theorem dX9_is_63 : decode cX9_is 63 = .ok (.getfield 12, 3) := by decide +kernel
theorem dX9_is_66 : decode cX9_is 66 = .ok (.getfield 122, 3) := by decide +kernel
theorem dX9_is_69 : decode cX9_is 69 = .ok (.getfield 207, 3) := by decide +kernel
theorem dX9_is_72 : decode cX9_is 72 = .ok (.ireturn, 1) := by decide +kernel
theorem dX9_is_73 : decode cX9_is 73 = .ok (.aload_n 0, 1) := by decide +kernel
theorem dX9_is_74 : decode cX9_is 74 = .ok (.getfield 12, 3) := by decide +kernel
theorem dX9_is_77 : decode cX9_is 77 = .ok (.getfield 122, 3) := by decide +kernel
theorem dX9_is_80 : decode cX9_is 80 = .ok (.getfield 138, 3) := by decide +kernel
theorem dX9_is_83 : decode cX9_is 83 = .ok (.ireturn, 1) := by decide +kernel
theorem dX9_is_84 : decode cX9_is 84 = .ok (.aload_n 0, 1) := by decide +kernel
theorem dX9_is_85 : decode cX9_is 85 = .ok (.getfield 12, 3) := by decide +kernel
theorem dX9_is_88 : decode cX9_is 88 = .ok (.getfield 122, 3) := by decide +kernel
theorem dX9_is_91 : decode cX9_is 91 = .ok (.getfield 154, 3) := by decide +kernel
theorem dX9_is_94 : decode cX9_is 94 = .ok (.ireturn, 1) := by decide +kernel
theorem dX9_is_95 : decode cX9_is 95 = .ok (.aload_n 0, 1) := by decide +kernel
theorem dX9_is_96 : decode cX9_is 96 = .ok (.getfield 12, 3) := by decide +kernel
theorem dX9_is_99 : decode cX9_is 99 = .ok (.getfield 122, 3) := by decide +kernel
theorem dX9_is_102 : decode cX9_is 102 = .ok (.getfield 126, 3) := by decide +kernel
theorem dX9_is_105 : decode cX9_is 105 = .ok (.iconst 0, 1) := by decide +kernel
theorem dX9_is_106 : decode cX9_is 106 = .ok (.bipush 12, 2) := by decide +kernel
theorem dX9_is_108 : decode cX9_is 108 = .ok (.invokestatic 210, 3) := by decide +kernel
theorem dX9_is_111 : decode cX9_is 111 = .ok (.ireturn, 1) := by decide +kernel
theorem dX9_is_112 : decode cX9_is 112 = .ok (.bipush (-2), 2) := by decide +kernel
theorem dX9_is_114 : decode cX9_is 114 = .ok (.ireturn, 1) := by decide +kernel
theorem dX9_book_0 : decode cX9_book 0 = .ok (.aload_n 0, 1) := by decide +kernel
theorem dX9_book_1 : decode cX9_book 1 = .ok (.getfield 12, 3) := by decide +kernel
theorem dX9_book_4 : decode cX9_book 4 = .ok (.getfield 122, 3) := by decide +kernel
theorem dX9_book_7 : decode cX9_book 7 = .ok (.invokevirtual 214, 3) := by decide +kernel
theorem dX9_book_10 : decode cX9_book 10 = .ok (.istore_n 3, 1) := by decide +kernel
theorem dX9_book_11 : decode cX9_book 11 = .ok (.iload_n 1, 1) := by decide +kernel
theorem dX9_book_12 : decode cX9_book 12 = .ok (.iconst (-1), 1) := by decide +kernel
theorem dX9_book_13 : decode cX9_book 13 = .ok (.if_icmp .ne 5, 3) := by decide +kernel
theorem dX9_book_16 : decode cX9_book 16 = .ok (.iload_n 3, 1) := by decide +kernel
theorem dX9_book_17 : decode cX9_book 17 = .ok (.ireturn, 1) := by decide +kernel
theorem dX9_book_18 : decode cX9_book 18 = .ok (.iload_n 1, 1) := by decide +kernel
theorem dX9_book_19 : decode cX9_book 19 = .ok (.ifCond .lt 17, 3) := by decide +kernel
theorem dX9_book_22 : decode cX9_book 22 = .ok (.iload_n 1, 1) := by decide +kernel
theorem dX9_book_23 : decode cX9_book 23 = .ok (.iload_n 3, 1) := by decide +kernel
theorem dX9_book_24 : decode cX9_book 24 = .ok (.if_icmp .ge 12, 3) := by decide +kernel
theorem dX9_book_27 : decode cX9_book 27 = .ok (.iload_n 2, 1) := by decide +kernel
theorem dX9_book_28 : decode cX9_book 28 = .ok (.ifCond .lt 8, 3) := by decide +kernel
theorem dX9_book_31 : decode cX9_book 31 = .ok (.iload_n 2, 1) := by decide +kernel
theorem dX9_book_32 : decode cX9_book 32 = .ok (.iconst 3, 1) := by decide +kernel
theorem dX9_book_33 : decode cX9_book 33 = .ok (.if_icmp .le 6, 3) := by decide +kernel
theorem dX9_book_36 : decode cX9_book 36 = .ok (.bipush (-2), 2) := by decide +kernel
theorem dX9_book_38 : decode cX9_book 38 = .ok (.ireturn, 1) := by decide +kernel
theorem dX9_book_39 : decode cX9_book 39 = .ok (.aload_n 0, 1) := by decide +kernel
theorem dX9_book_40 : decode cX9_book 40 = .ok (.getfield 12, 3) := by decide +kernel
theorem dX9_book_43 : decode cX9_book 43 = .ok (.getfield 122, 3) := by decide +kernel
theorem dX9_book_46 : decode cX9_book 46 = .ok (.iload_n 1, 1) := by decide +kernel
theorem dX9_book_47 : decode cX9_book 47 = .ok (.iload_n 2, 1) := by decide +kernel
theorem dX9_book_48 : decode cX9_book 48 = .ok (.invokevirtual 217, 3) := by decide +kernel
theorem dX9_book_51 : decode cX9_book 51 = .ok (.ireturn, 1) := by decide +kernel
theorem dX9_foretold_0 : decode cX9_foretold 0 = .ok (.iload_n 2, 1) := by decide +kernel
theorem dX9_foretold_1 : decode cX9_foretold 1 = .ok (.ifCond .ne 10, 3) := by decide +kernel
theorem dX9_foretold_4 : decode cX9_foretold 4 = .ok (.iload_n 3, 1) := by decide +kernel
theorem dX9_foretold_5 : decode cX9_foretold 5 = .ok (.invokestatic 68, 3) := by decide +kernel
theorem dX9_foretold_8 : decode cX9_foretold 8 = .ok (.goto 26, 3) := by decide +kernel
theorem dX9_foretold_11 : decode cX9_foretold 11 = .ok (.iload_n 2, 1) := by decide +kernel
theorem dX9_foretold_12 : decode cX9_foretold 12 = .ok (.iconst 1, 1) := by decide +kernel
theorem dX9_foretold_13 : decode cX9_foretold 13 = .ok (.if_icmp .ne 11, 3) := by decide +kernel
theorem dX9_foretold_16 : decode cX9_foretold 16 = .ok (.aload_n 0, 1) := by decide +kernel
theorem dX9_foretold_17 : decode cX9_foretold 17 = .ok (.iload_n 3, 1) := by decide +kernel
theorem dX9_foretold_18 : decode cX9_foretold 18 = .ok (.invokevirtual 193, 3) := by decide +kernel
theorem dX9_foretold_21 : decode cX9_foretold 21 = .ok (.goto 13, 3) := by decide +kernel
theorem dX9_foretold_24 : decode cX9_foretold 24 = .ok (.iload_n 2, 1) := by decide +kernel
theorem dX9_foretold_25 : decode cX9_foretold 25 = .ok (.iconst 2, 1) := by decide +kernel
theorem dX9_foretold_26 : decode cX9_foretold 26 = .ok (.if_icmp .ne 7, 3) := by decide +kernel
theorem dX9_foretold_29 : decode cX9_foretold 29 = .ok (.iconst 1, 1) := by decide +kernel
theorem dX9_foretold_30 : decode cX9_foretold 30 = .ok (.goto 4, 3) := by decide +kernel
theorem dX9_foretold_33 : decode cX9_foretold 33 = .ok (.iconst 0, 1) := by decide +kernel
theorem dX9_foretold_34 : decode cX9_foretold 34 = .ok (.istore 4, 2) := by decide +kernel
theorem dX9_foretold_36 : decode cX9_foretold 36 = .ok (.iload_n 1, 1) := by decide +kernel
theorem dX9_foretold_37 : decode cX9_foretold 37 = .ok (.iconst 1, 1) := by decide +kernel
theorem dX9_foretold_38 : decode cX9_foretold 38 = .ok (.if_icmp .lt 14, 3) := by decide +kernel
theorem dX9_foretold_41 : decode cX9_foretold 41 = .ok (.iload_n 1, 1) := by decide +kernel
theorem dX9_foretold_42 : decode cX9_foretold 42 = .ok (.bipush 60, 2) := by decide +kernel
theorem dX9_foretold_44 : decode cX9_foretold 44 = .ok (.if_icmp .gt 8, 3) := by decide +kernel
theorem dX9_foretold_47 : decode cX9_foretold 47 = .ok (.iload 4, 2) := by decide +kernel
theorem dX9_foretold_49 : decode cX9_foretold 49 = .ok (.ifCond .ne 6, 3) := by decide +kernel
theorem dX9_foretold_52 : decode cX9_foretold 52 = .ok (.bipush (-2), 2) := by decide +kernel
theorem dX9_foretold_54 : decode cX9_foretold 54 = .ok (.ireturn, 1) := by decide +kernel
theorem dX9_foretold_55 : decode cX9_foretold 55 = .ok (.aload_n 0, 1) := by decide +kernel
theorem dX9_foretold_56 : decode cX9_foretold 56 = .ok (.getfield 33, 3) := by decide +kernel
theorem dX9_foretold_59 : decode cX9_foretold 59 = .ok (.iload_n 1, 1) := by decide +kernel
theorem dX9_foretold_60 : decode cX9_foretold 60 = .ok (.invokevirtual 221, 3) := by decide +kernel
theorem dX9_foretold_63 : decode cX9_foretold 63 = .ok (.astore 5, 2) := by decide +kernel
theorem dX9_foretold_65 : decode cX9_foretold 65 = .ok (.iload_n 2, 1) := by decide +kernel
theorem dX9_foretold_66 : decode cX9_foretold 66 = .ok (.ifCond .ne 13, 3) := by decide +kernel
theorem dX9_foretold_69 : decode cX9_foretold 69 = .ok (.aload 5, 2) := by decide +kernel
theorem dX9_foretold_71 : decode cX9_foretold 71 = .ok (.getfield 126, 3) := by decide +kernel
theorem dX9_foretold_74 : decode cX9_foretold 74 = .ok (.iload_n 3, 1) := by decide +kernel
theorem dX9_foretold_75 : decode cX9_foretold 75 = .ok (.iaload, 1) := by decide +kernel
theorem dX9_foretold_76 : decode cX9_foretold 76 = .ok (.goto 23, 3) := by decide +kernel
theorem dX9_foretold_79 : decode cX9_foretold 79 = .ok (.iload_n 2, 1) := by decide +kernel
theorem dX9_foretold_80 : decode cX9_foretold 80 = .ok (.iconst 1, 1) := by decide +kernel
theorem dX9_foretold_81 : decode cX9_foretold 81 = .ok (.if_icmp .ne 13, 3) := by decide +kernel
theorem dX9_foretold_84 : decode cX9_foretold 84 = .ok (.aload 5, 2) := by decide +kernel
theorem dX9_foretold_86 : decode cX9_foretold 86 = .ok (.getfield 196, 3) := by decide +kernel
theorem dX9_foretold_89 : decode cX9_foretold 89 = .ok (.iload_n 3, 1) := by decide +kernel
theorem dX9_foretold_90 : decode cX9_foretold 90 = .ok (.iaload, 1) := by decide +kernel
theorem dX9_foretold_91 : decode cX9_foretold 91 = .ok (.goto 8, 3) := by decide +kernel
theorem dX9_foretold_94 : decode cX9_foretold 94 = .ok (.aload 5, 2) := by decide +kernel
theorem dX9_foretold_96 : decode cX9_foretold 96 = .ok (.getfield 154, 3) := by decide +kernel
theorem dX9_foretold_99 : decode cX9_foretold 99 = .ok (.ireturn, 1) := by decide +kernel
theorem dX9_lake_0 : decode cX9_lake 0 = .ok (.aload_n 0, 1) := by decide +kernel
theorem dX9_lake_1 : decode cX9_lake 1 = .ok (.getfield 12, 3) := by decide +kernel
theorem dX9_lake_4 : decode cX9_lake 4 = .ok (.getfield 122, 3) := by decide +kernel
theorem dX9_lake_7 : decode cX9_lake 7 = .ok (.getfield 126, 3) := by decide +kernel
theorem dX9_lake_10 : decode cX9_lake 10 = .ok (.invokestatic 225, 3) := by decide +kernel
theorem dX9_lake_13 : decode cX9_lake 13 = .ok (.ireturn, 1) := by decide +kernel
theorem dX9_glaze_0 : decode cX9_glaze 0 = .ok (.iload_n 1, 1) := by decide +kernel
theorem dX9_glaze_1 : decode cX9_glaze 1 = .ok (.ifCond .lt 8, 3) := by decide +kernel
theorem dX9_glaze_4 : decode cX9_glaze 4 = .ok (.iload_n 1, 1) := by decide +kernel
theorem dX9_glaze_5 : decode cX9_glaze 5 = .ok (.iconst 2, 1) := by decide +kernel
theorem dX9_glaze_6 : decode cX9_glaze 6 = .ok (.if_icmp .le 7, 3) := by decide +kernel
theorem dX9_glaze_9 : decode cX9_glaze 9 = .ok (.iconst (-1), 1) := by decide +kernel
theorem dX9_glaze_10 : decode cX9_glaze 10 = .ok (.goto 17, 3) := by decide +kernel
theorem dX9_glaze_13 : decode cX9_glaze 13 = .ok (.aload_n 0, 1) := by decide +kernel
theorem dX9_glaze_14 : decode cX9_glaze 14 = .ok (.getfield 12, 3) := by decide +kernel
theorem dX9_glaze_17 : decode cX9_glaze 17 = .ok (.getfield 122, 3) := by decide +kernel
theorem dX9_glaze_20 : decode cX9_glaze 20 = .ok (.getfield 126, 3) := by decide +kernel
theorem dX9_glaze_23 : decode cX9_glaze 23 = .ok (.iload_n 1, 1) := by decide +kernel
theorem dX9_glaze_24 : decode cX9_glaze 24 = .ok (.invokestatic 229, 3) := by decide +kernel
theorem dX9_glaze_27 : decode cX9_glaze 27 = .ok (.ireturn, 1) := by decide +kernel
theorem dX9_rise_0 : decode cX9_rise 0 = .ok (.aload_n 0, 1) := by decide +kernel
theorem dX9_rise_1 : decode cX9_rise 1 = .ok (.getfield 40, 3) := by decide +kernel
theorem dX9_rise_4 : decode cX9_rise 4 = .ok (.aload_n 0, 1) := by decide +kernel
theorem dX9_rise_5 : decode cX9_rise 5 = .ok (.getfield 12, 3) := by decide +kernel
theorem dX9_rise_8 : decode cX9_rise 8 = .ok (.getfield 122, 3) := by decide +kernel
theorem dX9_rise_11 : decode cX9_rise 11 = .ok (.getfield 126, 3) := by decide +kernel
theorem dX9_rise_14 : decode cX9_rise 14 = .ok (.iload_n 1, 1) := by decide +kernel
theorem dX9_rise_15 : decode cX9_rise 15 = .ok (.invokevirtual 233, 3) := by decide +kernel
theorem dX9_rise_18 : decode cX9_rise 18 = .ok (.ireturn, 1) := by decide +kernel
theorem dX9_folds_0 : decode cX9_folds 0 = .ok (.aload_n 0, 1) := by decide +kernel
theorem dX9_folds_1 : decode cX9_folds 1 = .ok (.getfield 12, 3) := by decide +kernel
theorem dX9_folds_4 : decode cX9_folds 4 = .ok (.getfield 122, 3) := by decide +kernel
theorem dX9_folds_7 : decode cX9_folds 7 = .ok (.getfield 126, 3) := by decide +kernel
theorem dX9_folds_10 : decode cX9_folds 10 = .ok (.invokestatic 236, 3) := by decide +kernel
theorem dX9_folds_13 : decode cX9_folds 13 = .ok (.ireturn, 1) := by decide +kernel
theorem dX9_peaks_0 : decode cX9_peaks 0 = .ok (.aload_n 0, 1) := by decide +kernel
theorem dX9_peaks_1 : decode cX9_peaks 1 = .ok (.getfield 12, 3) := by decide +kernel
theorem dX9_peaks_4 : decode cX9_peaks 4 = .ok (.getfield 122, 3) := by decide +kernel
theorem dX9_peaks_7 : decode cX9_peaks 7 = .ok (.getfield 126, 3) := by decide +kernel
theorem dX9_peaks_10 : decode cX9_peaks 10 = .ok (.invokestatic 239, 3) := by decide +kernel
theorem dX9_peaks_13 : decode cX9_peaks 13 = .ok (.ireturn, 1) := by decide +kernel
theorem dX9_richest_0 : decode cX9_richest 0 = .ok (.iload_n 1, 1) := by decide +kernel
theorem dX9_richest_1 : decode cX9_richest 1 = .ok (.iconst 1, 1) := by decide +kernel
theorem dX9_richest_2 : decode cX9_richest 2 = .ok (.if_icmp .lt 9, 3) := by decide +kernel
theorem dX9_richest_5 : decode cX9_richest 5 = .ok (.iload_n 1, 1) := by decide +kernel
theorem dX9_richest_6 : decode cX9_richest 6 = .ok (.bipush 12, 2) := by decide +kernel
theorem dX9_richest_8 : decode cX9_richest 8 = .ok (.if_icmp .le 7, 3) := by decide +kernel
theorem dX9_richest_11 : decode cX9_richest 11 = .ok (.iconst (-1), 1) := by decide +kernel
theorem dX9_richest_12 : decode cX9_richest 12 = .ok (.goto 17, 3) := by decide +kernel
theorem dX9_richest_15 : decode cX9_richest 15 = .ok (.aload_n 0, 1) := by decide +kernel
theorem dX9_richest_16 : decode cX9_richest 16 = .ok (.getfield 12, 3) := by decide +kernel
theorem dX9_richest_19 : decode cX9_richest 19 = .ok (.getfield 122, 3) := by decide +kernel
theorem dX9_richest_22 : decode cX9_richest 22 = .ok (.getfield 126, 3) := by decide +kernel
theorem dX9_richest_25 : decode cX9_richest 25 = .ok (.iload_n 1, 1) := by decide +kernel
theorem dX9_richest_26 : decode cX9_richest 26 = .ok (.invokestatic 242, 3) := by decide +kernel
theorem dX9_richest_29 : decode cX9_richest 29 = .ok (.ireturn, 1) := by decide +kernel
theorem dX9_islands_0 : decode cX9_islands 0 = .ok (.iload_n 1, 1) := by decide +kernel
theorem dX9_islands_1 : decode cX9_islands 1 = .ok (.ifCond .lt 10, 3) := by decide +kernel
theorem dX9_islands_4 : decode cX9_islands 4 = .ok (.iload_n 1, 1) := by decide +kernel
theorem dX9_islands_5 : decode cX9_islands 5 = .ok (.sipush 9999, 3) := by decide +kernel
theorem dX9_islands_8 : decode cX9_islands 8 = .ok (.if_icmp .le 7, 3) := by decide +kernel
theorem dX9_islands_11 : decode cX9_islands 11 = .ok (.iconst (-1), 1) := by decide +kernel
theorem dX9_islands_12 : decode cX9_islands 12 = .ok (.goto 17, 3) := by decide +kernel
theorem dX9_islands_15 : decode cX9_islands 15 = .ok (.aload_n 0, 1) := by decide +kernel
theorem dX9_islands_16 : decode cX9_islands 16 = .ok (.getfield 12, 3) := by decide +kernel
theorem dX9_islands_19 : decode cX9_islands 19 = .ok (.getfield 122, 3) := by decide +kernel
theorem dX9_islands_22 : decode cX9_islands 22 = .ok (.getfield 126, 3) := by decide +kernel
theorem dX9_islands_25 : decode cX9_islands 25 = .ok (.iload_n 1, 1) := by decide +kernel
theorem dX9_islands_26 : decode cX9_islands 26 = .ok (.invokestatic 245, 3) := by decide +kernel
theorem dX9_islands_29 : decode cX9_islands 29 = .ok (.ireturn, 1) := by decide +kernel
theorem dX9_sees_0 : decode cX9_sees 0 = .ok (.iload_n 1, 1) := by decide +kernel
theorem dX9_sees_1 : decode cX9_sees 1 = .ok (.invokestatic 68, 3) := by decide +kernel
theorem dX9_sees_4 : decode cX9_sees 4 = .ok (.ifCond .eq 21, 3) := by decide +kernel
theorem dX9_sees_7 : decode cX9_sees 7 = .ok (.aload_n 0, 1) := by decide +kernel
theorem dX9_sees_8 : decode cX9_sees 8 = .ok (.getfield 12, 3) := by decide +kernel
theorem dX9_sees_11 : decode cX9_sees 11 = .ok (.getfield 122, 3) := by decide +kernel
theorem dX9_sees_14 : decode cX9_sees 14 = .ok (.getfield 126, 3) := by decide +kernel
theorem dX9_sees_17 : decode cX9_sees 17 = .ok (.iload_n 1, 1) := by decide +kernel
theorem dX9_sees_18 : decode cX9_sees 18 = .ok (.iload_n 2, 1) := by decide +kernel
theorem dX9_sees_19 : decode cX9_sees 19 = .ok (.invokestatic 248, 3) := by decide +kernel
theorem dX9_sees_22 : decode cX9_sees 22 = .ok (.goto 4, 3) := by decide +kernel
theorem dX9_sees_25 : decode cX9_sees 25 = .ok (.iconst (-1), 1) := by decide +kernel
theorem dX9_sees_26 : decode cX9_sees 26 = .ok (.ireturn, 1) := by decide +kernel
theorem dX9_middle_0 : decode cX9_middle 0 = .ok (.iload_n 1, 1) := by decide +kernel
theorem dX9_middle_1 : decode cX9_middle 1 = .ok (.iconst 1, 1) := by decide +kernel
theorem dX9_middle_2 : decode cX9_middle 2 = .ok (.if_icmp .lt 9, 3) := by decide +kernel
theorem dX9_middle_5 : decode cX9_middle 5 = .ok (.iload_n 1, 1) := by decide +kernel
theorem dX9_middle_6 : decode cX9_middle 6 = .ok (.bipush 12, 2) := by decide +kernel
theorem dX9_middle_8 : decode cX9_middle 8 = .ok (.if_icmp .le 7, 3) := by decide +kernel
theorem dX9_middle_11 : decode cX9_middle 11 = .ok (.iconst (-1), 1) := by decide +kernel
theorem dX9_middle_12 : decode cX9_middle 12 = .ok (.goto 17, 3) := by decide +kernel
theorem dX9_middle_15 : decode cX9_middle 15 = .ok (.aload_n 0, 1) := by decide +kernel
theorem dX9_middle_16 : decode cX9_middle 16 = .ok (.getfield 12, 3) := by decide +kernel
theorem dX9_middle_19 : decode cX9_middle 19 = .ok (.getfield 122, 3) := by decide +kernel
theorem dX9_middle_22 : decode cX9_middle 22 = .ok (.getfield 126, 3) := by decide +kernel
theorem dX9_middle_25 : decode cX9_middle 25 = .ok (.iload_n 1, 1) := by decide +kernel
theorem dX9_middle_26 : decode cX9_middle 26 = .ok (.invokestatic 252, 3) := by decide +kernel
theorem dX9_middle_29 : decode cX9_middle 29 = .ok (.ireturn, 1) := by decide +kernel
theorem dX9_carried_0 : decode cX9_carried 0 = .ok (.aload_n 0, 1) := by decide +kernel
theorem dX9_carried_1 : decode cX9_carried 1 = .ok (.getfield 16, 3) := by decide +kernel
theorem dX9_carried_4 : decode cX9_carried 4 = .ok (.getfield 122, 3) := by decide +kernel
theorem dX9_carried_7 : decode cX9_carried 7 = .ok (.getfield 126, 3) := by decide +kernel
theorem dX9_carried_10 : decode cX9_carried 10 = .ok (.astore_n 1, 1) := by decide +kernel
theorem dX9_carried_11 : decode cX9_carried 11 = .ok (.aload_n 0, 1) := by decide +kernel
theorem dX9_carried_12 : decode cX9_carried 12 = .ok (.getfield 12, 3) := by decide +kernel
theorem dX9_carried_15 : decode cX9_carried 15 = .ok (.getfield 122, 3) := by decide +kernel
theorem dX9_carried_18 : decode cX9_carried 18 = .ok (.getfield 126, 3) := by decide +kernel
theorem dX9_carried_21 : decode cX9_carried 21 = .ok (.astore_n 2, 1) := by decide +kernel
theorem dX9_carried_22 : decode cX9_carried 22 = .ok (.aload_n 1, 1) := by decide +kernel
theorem dX9_carried_23 : decode cX9_carried 23 = .ok (.iconst 0, 1) := by decide +kernel
theorem dX9_carried_24 : decode cX9_carried 24 = .ok (.bipush 12, 2) := by decide +kernel
theorem dX9_carried_26 : decode cX9_carried 26 = .ok (.invokestatic 210, 3) := by decide +kernel
theorem dX9_carried_29 : decode cX9_carried 29 = .ok (.aload_n 2, 1) := by decide +kernel
theorem dX9_carried_30 : decode cX9_carried 30 = .ok (.iconst 0, 1) := by decide +kernel
theorem dX9_carried_31 : decode cX9_carried 31 = .ok (.bipush 12, 2) := by decide +kernel
theorem dX9_carried_33 : decode cX9_carried 33 = .ok (.invokestatic 210, 3) := by decide +kernel
theorem dX9_carried_36 : decode cX9_carried 36 = .ok (.if_icmp .eq 5, 3) := by decide +kernel
theorem dX9_carried_39 : decode cX9_carried 39 = .ok (.iconst (-1), 1) := by decide +kernel
theorem dX9_carried_40 : decode cX9_carried 40 = .ok (.ireturn, 1) := by decide +kernel
theorem dX9_carried_41 : decode cX9_carried 41 = .ok (.aload_n 1, 1) := by decide +kernel
theorem dX9_carried_42 : decode cX9_carried 42 = .ok (.aload_n 2, 1) := by decide +kernel
theorem dX9_carried_43 : decode cX9_carried 43 = .ok (.invokestatic 255, 3) := by decide +kernel
theorem dX9_carried_46 : decode cX9_carried 46 = .ok (.ireturn, 1) := by decide +kernel
theorem dX9_level_0 : decode cX9_level 0 = .ok (.aload_n 0, 1) := by decide +kernel
theorem dX9_level_1 : decode cX9_level 1 = .ok (.getfield 40, 3) := by decide +kernel
theorem dX9_level_4 : decode cX9_level 4 = .ok (.aload_n 0, 1) := by decide +kernel
theorem dX9_level_5 : decode cX9_level 5 = .ok (.getfield 12, 3) := by decide +kernel
theorem dX9_level_8 : decode cX9_level 8 = .ok (.getfield 122, 3) := by decide +kernel
theorem dX9_level_11 : decode cX9_level 11 = .ok (.getfield 126, 3) := by decide +kernel
theorem dX9_level_14 : decode cX9_level 14 = .ok (.invokevirtual 259, 3) := by decide +kernel
theorem dX9_level_17 : decode cX9_level 17 = .ok (.ireturn, 1) := by decide +kernel
theorem dX9_shared_0 : decode cX9_shared 0 = .ok (.iload_n 1, 1) := by decide +kernel
theorem dX9_shared_1 : decode cX9_shared 1 = .ok (.iconst 1, 1) := by decide +kernel
theorem dX9_shared_2 : decode cX9_shared 2 = .ok (.if_icmp .lt 19, 3) := by decide +kernel
theorem dX9_shared_5 : decode cX9_shared 5 = .ok (.iload_n 1, 1) := by decide +kernel
theorem dX9_shared_6 : decode cX9_shared 6 = .ok (.bipush 6, 2) := by decide +kernel
theorem dX9_shared_8 : decode cX9_shared 8 = .ok (.if_icmp .gt 13, 3) := by decide +kernel
theorem dX9_shared_11 : decode cX9_shared 11 = .ok (.iload_n 2, 1) := by decide +kernel
theorem dX9_shared_12 : decode cX9_shared 12 = .ok (.iconst (-1), 1) := by decide +kernel
theorem dX9_shared_13 : decode cX9_shared 13 = .ok (.if_icmp .lt 8, 3) := by decide +kernel
theorem dX9_shared_16 : decode cX9_shared 16 = .ok (.iload_n 2, 1) := by decide +kernel
theorem dX9_shared_17 : decode cX9_shared 17 = .ok (.iload_n 1, 1) := by decide +kernel
theorem dX9_shared_18 : decode cX9_shared 18 = .ok (.if_icmp .lt 6, 3) := by decide +kernel
theorem dX9_shared_21 : decode cX9_shared 21 = .ok (.bipush (-2), 2) := by decide +kernel
theorem dX9_shared_23 : decode cX9_shared 23 = .ok (.ireturn, 1) := by decide +kernel
theorem dX9_shared_24 : decode cX9_shared 24 = .ok (.aload_n 0, 1) := by decide +kernel
theorem dX9_shared_25 : decode cX9_shared 25 = .ok (.getfield 40, 3) := by decide +kernel
theorem dX9_shared_28 : decode cX9_shared 28 = .ok (.aload_n 0, 1) := by decide +kernel
theorem dX9_shared_29 : decode cX9_shared 29 = .ok (.getfield 12, 3) := by decide +kernel
theorem dX9_shared_32 : decode cX9_shared 32 = .ok (.getfield 122, 3) := by decide +kernel
theorem dX9_shared_35 : decode cX9_shared 35 = .ok (.getfield 126, 3) := by decide +kernel
theorem dX9_shared_38 : decode cX9_shared 38 = .ok (.iload_n 1, 1) := by decide +kernel
theorem dX9_shared_39 : decode cX9_shared 39 = .ok (.iload_n 2, 1) := by decide +kernel
theorem dX9_shared_40 : decode cX9_shared 40 = .ok (.invokevirtual 262, 3) := by decide +kernel
theorem dX9_shared_43 : decode cX9_shared 43 = .ok (.ireturn, 1) := by decide +kernel
theorem dX9_ends_0 : decode cX9_ends 0 = .ok (.iload_n 1, 1) := by decide +kernel
theorem dX9_ends_1 : decode cX9_ends 1 = .ok (.iload_n 2, 1) := by decide +kernel
theorem dX9_ends_2 : decode cX9_ends 2 = .ok (.invokestatic 265, 3) := by decide +kernel
theorem dX9_ends_5 : decode cX9_ends 5 = .ok (.ifCond .eq 25, 3) := by decide +kernel
theorem dX9_ends_8 : decode cX9_ends 8 = .ok (.aload_n 0, 1) := by decide +kernel
theorem dX9_ends_9 : decode cX9_ends 9 = .ok (.getfield 40, 3) := by decide +kernel
theorem dX9_ends_12 : decode cX9_ends 12 = .ok (.aload_n 0, 1) := by decide +kernel
theorem dX9_ends_13 : decode cX9_ends 13 = .ok (.getfield 12, 3) := by decide +kernel
theorem dX9_ends_16 : decode cX9_ends 16 = .ok (.getfield 122, 3) := by decide +kernel
theorem dX9_ends_19 : decode cX9_ends 19 = .ok (.getfield 126, 3) := by decide +kernel
theorem dX9_ends_22 : decode cX9_ends 22 = .ok (.iload_n 1, 1) := by decide +kernel
theorem dX9_ends_23 : decode cX9_ends 23 = .ok (.iload_n 2, 1) := by decide +kernel
theorem dX9_ends_24 : decode cX9_ends 24 = .ok (.invokevirtual 268, 3) := by decide +kernel
theorem dX9_ends_27 : decode cX9_ends 27 = .ok (.goto 6, 3) := by decide +kernel
theorem dX9_ends_30 : decode cX9_ends 30 = .ok (.sipush (-9999), 3) := by decide +kernel
theorem dX9_ends_33 : decode cX9_ends 33 = .ok (.ireturn, 1) := by decide +kernel
theorem dX9_endsFirst_0 : decode cX9_endsFirst 0 = .ok (.iload_n 1, 1) := by decide +kernel
theorem dX9_endsFirst_1 : decode cX9_endsFirst 1 = .ok (.iload_n 2, 1) := by decide +kernel
theorem dX9_endsFirst_2 : decode cX9_endsFirst 2 = .ok (.invokestatic 265, 3) := by decide +kernel
theorem dX9_endsFirst_5 : decode cX9_endsFirst 5 = .ok (.ifCond .eq 25, 3) := by decide +kernel
theorem dX9_endsFirst_8 : decode cX9_endsFirst 8 = .ok (.aload_n 0, 1) := by decide +kernel
theorem dX9_endsFirst_9 : decode cX9_endsFirst 9 = .ok (.getfield 40, 3) := by decide +kernel
theorem dX9_endsFirst_12 : decode cX9_endsFirst 12 = .ok (.aload_n 0, 1) := by decide +kernel
theorem dX9_endsFirst_13 : decode cX9_endsFirst 13 = .ok (.getfield 12, 3) := by decide +kernel
theorem dX9_endsFirst_16 : decode cX9_endsFirst 16 = .ok (.getfield 122, 3) := by decide +kernel
theorem dX9_endsFirst_19 : decode cX9_endsFirst 19 = .ok (.getfield 126, 3) := by decide +kernel
theorem dX9_endsFirst_22 : decode cX9_endsFirst 22 = .ok (.iload_n 1, 1) := by decide +kernel
theorem dX9_endsFirst_23 : decode cX9_endsFirst 23 = .ok (.iload_n 2, 1) := by decide +kernel
theorem dX9_endsFirst_24 : decode cX9_endsFirst 24 = .ok (.invokevirtual 271, 3) := by decide +kernel
theorem dX9_endsFirst_27 : decode cX9_endsFirst 27 = .ok (.goto 4, 3) := by decide +kernel
theorem dX9_endsFirst_30 : decode cX9_endsFirst 30 = .ok (.iconst (-1), 1) := by decide +kernel
theorem dX9_endsFirst_31 : decode cX9_endsFirst 31 = .ok (.ireturn, 1) := by decide +kernel
theorem dX9_patches_0 : decode cX9_patches 0 = .ok (.iload_n 1, 1) := by decide +kernel
theorem dX9_patches_1 : decode cX9_patches 1 = .ok (.iconst 1, 1) := by decide +kernel
theorem dX9_patches_2 : decode cX9_patches 2 = .ok (.if_icmp .lt 20, 3) := by decide +kernel
theorem dX9_patches_5 : decode cX9_patches 5 = .ok (.iload_n 1, 1) := by decide +kernel
theorem dX9_patches_6 : decode cX9_patches 6 = .ok (.bipush 6, 2) := by decide +kernel
theorem dX9_patches_8 : decode cX9_patches 8 = .ok (.if_icmp .gt 14, 3) := by decide +kernel
theorem dX9_patches_11 : decode cX9_patches 11 = .ok (.iload_n 2, 1) := by decide +kernel
theorem dX9_patches_12 : decode cX9_patches 12 = .ok (.iconst 1, 1) := by decide +kernel
theorem dX9_patches_13 : decode cX9_patches 13 = .ok (.if_icmp .lt 9, 3) := by decide +kernel
theorem dX9_patches_16 : decode cX9_patches 16 = .ok (.iload_n 2, 1) := by decide +kernel
theorem dX9_patches_17 : decode cX9_patches 17 = .ok (.bipush 6, 2) := by decide +kernel
theorem dX9_patches_19 : decode cX9_patches 19 = .ok (.if_icmp .le 5, 3) := by decide +kernel
theorem dX9_patches_22 : decode cX9_patches 22 = .ok (.iconst (-1), 1) := by decide +kernel
theorem dX9_patches_23 : decode cX9_patches 23 = .ok (.ireturn, 1) := by decide +kernel
theorem dX9_patches_24 : decode cX9_patches 24 = .ok (.aload_n 0, 1) := by decide +kernel
theorem dX9_patches_25 : decode cX9_patches 25 = .ok (.getfield 40, 3) := by decide +kernel
theorem dX9_patches_28 : decode cX9_patches 28 = .ok (.aload_n 0, 1) := by decide +kernel
theorem dX9_patches_29 : decode cX9_patches 29 = .ok (.getfield 12, 3) := by decide +kernel
theorem dX9_patches_32 : decode cX9_patches 32 = .ok (.getfield 122, 3) := by decide +kernel
theorem dX9_patches_35 : decode cX9_patches 35 = .ok (.getfield 154, 3) := by decide +kernel
theorem dX9_patches_38 : decode cX9_patches 38 = .ok (.iload_n 1, 1) := by decide +kernel
theorem dX9_patches_39 : decode cX9_patches 39 = .ok (.iload_n 2, 1) := by decide +kernel
theorem dX9_patches_40 : decode cX9_patches 40 = .ok (.iload_n 3, 1) := by decide +kernel
theorem dX9_patches_41 : decode cX9_patches 41 = .ok (.invokevirtual 274, 3) := by decide +kernel
theorem dX9_patches_44 : decode cX9_patches 44 = .ok (.ireturn, 1) := by decide +kernel
theorem dX9_plan_0 : decode cX9_plan 0 = .ok (.aload_n 0, 1) := by decide +kernel
theorem dX9_plan_1 : decode cX9_plan 1 = .ok (.iload_n 1, 1) := by decide +kernel
theorem dX9_plan_2 : decode cX9_plan 2 = .ok (.invokevirtual 119, 3) := by decide +kernel
theorem dX9_plan_5 : decode cX9_plan 5 = .ok (.ifCond .eq 24, 3) := by decide +kernel
theorem dX9_plan_8 : decode cX9_plan 8 = .ok (.iload_n 2, 1) := by decide +kernel
theorem dX9_plan_9 : decode cX9_plan 9 = .ok (.ifCond .lt 20, 3) := by decide +kernel
theorem dX9_plan_12 : decode cX9_plan 12 = .ok (.iload_n 2, 1) := by decide +kernel
theorem dX9_plan_13 : decode cX9_plan 13 = .ok (.sipush 9999, 3) := by decide +kernel
theorem dX9_plan_16 : decode cX9_plan 16 = .ok (.if_icmp .gt 13, 3) := by decide +kernel
theorem dX9_plan_19 : decode cX9_plan 19 = .ok (.iload_n 3, 1) := by decide +kernel
theorem dX9_plan_20 : decode cX9_plan 20 = .ok (.iconst (-1), 1) := by decide +kernel
theorem dX9_plan_21 : decode cX9_plan 21 = .ok (.if_icmp .lt 8, 3) := by decide +kernel
theorem dX9_plan_24 : decode cX9_plan 24 = .ok (.iload_n 3, 1) := by decide +kernel
theorem dX9_plan_25 : decode cX9_plan 25 = .ok (.iconst 3, 1) := by decide +kernel
theorem dX9_plan_26 : decode cX9_plan 26 = .ok (.if_icmp .lt 6, 3) := by decide +kernel
theorem dX9_plan_29 : decode cX9_plan 29 = .ok (.bipush (-2), 2) := by decide +kernel
theorem dX9_plan_31 : decode cX9_plan 31 = .ok (.ireturn, 1) := by decide +kernel
theorem dX9_plan_32 : decode cX9_plan 32 = .ok (.aload_n 0, 1) := by decide +kernel
theorem dX9_plan_33 : decode cX9_plan 33 = .ok (.getfield 33, 3) := by decide +kernel
theorem dX9_plan_36 : decode cX9_plan 36 = .ok (.iload_n 1, 1) := by decide +kernel
theorem dX9_plan_37 : decode cX9_plan 37 = .ok (.iload_n 2, 1) := by decide +kernel
theorem dX9_plan_38 : decode cX9_plan 38 = .ok (.invokevirtual 278, 3) := by decide +kernel
theorem dX9_plan_41 : decode cX9_plan 41 = .ok (.istore 4, 2) := by decide +kernel
theorem dX9_plan_43 : decode cX9_plan 43 = .ok (.iload_n 3, 1) := by decide +kernel
theorem dX9_plan_44 : decode cX9_plan 44 = .ok (.iconst (-1), 1) := by decide +kernel
theorem dX9_plan_45 : decode cX9_plan 45 = .ok (.if_icmp .ne 6, 3) := by decide +kernel
theorem dX9_plan_48 : decode cX9_plan 48 = .ok (.iload 4, 2) := by decide +kernel
theorem dX9_plan_50 : decode cX9_plan 50 = .ok (.ireturn, 1) := by decide +kernel
theorem dX9_plan_51 : decode cX9_plan 51 = .ok (.iload_n 3, 1) := by decide +kernel
theorem dX9_plan_52 : decode cX9_plan 52 = .ok (.iload 4, 2) := by decide +kernel
theorem dX9_plan_54 : decode cX9_plan 54 = .ok (.if_icmp .ge 15, 3) := by decide +kernel
theorem dX9_plan_57 : decode cX9_plan 57 = .ok (.aload_n 0, 1) := by decide +kernel
theorem dX9_plan_58 : decode cX9_plan 58 = .ok (.getfield 33, 3) := by decide +kernel
theorem dX9_plan_61 : decode cX9_plan 61 = .ok (.getfield 281, 3) := by decide +kernel
theorem dX9_plan_64 : decode cX9_plan 64 = .ok (.iload_n 3, 1) := by decide +kernel
theorem dX9_plan_65 : decode cX9_plan 65 = .ok (.iaload, 1) := by decide +kernel
theorem dX9_plan_66 : decode cX9_plan 66 = .ok (.goto 5, 3) := by decide +kernel
theorem dX9_plan_69 : decode cX9_plan 69 = .ok (.bipush (-2), 2) := by decide +kernel
theorem dX9_plan_71 : decode cX9_plan 71 = .ok (.ireturn, 1) := by decide +kernel
theorem dX9_best_0 : decode cX9_best 0 = .ok (.aload_n 0, 1) := by decide +kernel
theorem dX9_best_1 : decode cX9_best 1 = .ok (.iload_n 1, 1) := by decide +kernel
theorem dX9_best_2 : decode cX9_best 2 = .ok (.invokevirtual 119, 3) := by decide +kernel
theorem dX9_best_5 : decode cX9_best 5 = .ok (.ifCond .eq 14, 3) := by decide +kernel
theorem dX9_best_8 : decode cX9_best 8 = .ok (.aload_n 0, 1) := by decide +kernel
theorem dX9_best_9 : decode cX9_best 9 = .ok (.getfield 33, 3) := by decide +kernel
theorem dX9_best_12 : decode cX9_best 12 = .ok (.iload_n 1, 1) := by decide +kernel
theorem dX9_best_13 : decode cX9_best 13 = .ok (.invokevirtual 284, 3) := by decide +kernel
theorem dX9_best_16 : decode cX9_best 16 = .ok (.goto 4, 3) := by decide +kernel
theorem dX9_best_19 : decode cX9_best 19 = .ok (.iconst (-1), 1) := by decide +kernel
theorem dX9_best_20 : decode cX9_best 20 = .ok (.ireturn, 1) := by decide +kernel
theorem dX9_which_0 : decode cX9_which 0 = .ok (.aload_n 0, 1) := by decide +kernel
theorem dX9_which_1 : decode cX9_which 1 = .ok (.iload_n 1, 1) := by decide +kernel
theorem dX9_which_2 : decode cX9_which 2 = .ok (.invokevirtual 119, 3) := by decide +kernel
theorem dX9_which_5 : decode cX9_which 5 = .ok (.ifCond .ne 6, 3) := by decide +kernel
theorem dX9_which_8 : decode cX9_which 8 = .ok (.bipush (-2), 2) := by decide +kernel
theorem dX9_which_10 : decode cX9_which 10 = .ok (.ireturn, 1) := by decide +kernel
theorem dX9_which_11 : decode cX9_which 11 = .ok (.aload_n 0, 1) := by decide +kernel
theorem dX9_which_12 : decode cX9_which 12 = .ok (.getfield 33, 3) := by decide +kernel
theorem dX9_which_15 : decode cX9_which 15 = .ok (.iload_n 1, 1) := by decide +kernel
theorem dX9_which_16 : decode cX9_which 16 = .ok (.invokevirtual 287, 3) := by decide +kernel
theorem dX9_which_19 : decode cX9_which 19 = .ok (.iload_n 2, 1) := by decide +kernel
theorem dX9_which_20 : decode cX9_which 20 = .ok (.ifCond .eq 13, 3) := by decide +kernel
theorem dX9_which_23 : decode cX9_which 23 = .ok (.aload_n 0, 1) := by decide +kernel
theorem dX9_which_24 : decode cX9_which 24 = .ok (.getfield 33, 3) := by decide +kernel
theorem dX9_which_27 : decode cX9_which 27 = .ok (.invokevirtual 290, 3) := by decide +kernel
theorem dX9_which_30 : decode cX9_which 30 = .ok (.goto 10, 3) := by decide +kernel
theorem dX9_which_33 : decode cX9_which 33 = .ok (.aload_n 0, 1) := by decide +kernel
theorem dX9_which_34 : decode cX9_which 34 = .ok (.getfield 33, 3) := by decide +kernel
theorem dX9_which_37 : decode cX9_which 37 = .ok (.getfield 293, 3) := by decide +kernel
theorem dX9_which_40 : decode cX9_which 40 = .ok (.ireturn, 1) := by decide +kernel
theorem dX9_likely_0 : decode cX9_likely 0 = .ok (.aload_n 0, 1) := by decide +kernel
theorem dX9_likely_1 : decode cX9_likely 1 = .ok (.iload_n 1, 1) := by decide +kernel
theorem dX9_likely_2 : decode cX9_likely 2 = .ok (.invokevirtual 119, 3) := by decide +kernel
theorem dX9_likely_5 : decode cX9_likely 5 = .ok (.ifCond .ne 5, 3) := by decide +kernel
theorem dX9_likely_8 : decode cX9_likely 8 = .ok (.iconst (-1), 1) := by decide +kernel
theorem dX9_likely_9 : decode cX9_likely 9 = .ok (.ireturn, 1) := by decide +kernel
theorem dX9_likely_10 : decode cX9_likely 10 = .ok (.aload_n 0, 1) := by decide +kernel
theorem dX9_likely_11 : decode cX9_likely 11 = .ok (.getfield 33, 3) := by decide +kernel
theorem dX9_likely_14 : decode cX9_likely 14 = .ok (.iload_n 1, 1) := by decide +kernel
theorem dX9_likely_15 : decode cX9_likely 15 = .ok (.invokevirtual 296, 3) := by decide +kernel
theorem dX9_likely_18 : decode cX9_likely 18 = .ok (.istore_n 3, 1) := by decide +kernel
theorem dX9_likely_19 : decode cX9_likely 19 = .ok (.iload_n 3, 1) := by decide +kernel
theorem dX9_likely_20 : decode cX9_likely 20 = .ok (.bipush 24, 2) := by decide +kernel
theorem dX9_likely_22 : decode cX9_likely 22 = .ok (.invokestatic 299, 3) := by decide +kernel
theorem dX9_likely_25 : decode cX9_likely 25 = .ok (.istore 4, 2) := by decide +kernel
theorem dX9_likely_27 : decode cX9_likely 27 = .ok (.iload_n 2, 1) := by decide +kernel
theorem dX9_likely_28 : decode cX9_likely 28 = .ok (.ifCond .eq 8, 3) := by decide +kernel
theorem dX9_likely_31 : decode cX9_likely 31 = .ok (.bipush 24, 2) := by decide +kernel
theorem dX9_likely_33 : decode cX9_likely 33 = .ok (.goto 4, 3) := by decide +kernel
theorem dX9_likely_36 : decode cX9_likely 36 = .ok (.iload_n 3, 1) := by decide +kernel
theorem dX9_likely_37 : decode cX9_likely 37 = .ok (.iload 4, 2) := by decide +kernel
theorem dX9_likely_39 : decode cX9_likely 39 = .ok (.idiv, 1) := by decide +kernel
theorem dX9_likely_40 : decode cX9_likely 40 = .ok (.ireturn, 1) := by decide +kernel
theorem dX9_thin_0 : decode cX9_thin 0 = .ok (.aload_n 0, 1) := by decide +kernel
theorem dX9_thin_1 : decode cX9_thin 1 = .ok (.getfield 12, 3) := by decide +kernel
theorem dX9_thin_4 : decode cX9_thin 4 = .ok (.getfield 122, 3) := by decide +kernel
theorem dX9_thin_7 : decode cX9_thin 7 = .ok (.getfield 126, 3) := by decide +kernel
theorem dX9_thin_10 : decode cX9_thin 10 = .ok (.invokestatic 302, 3) := by decide +kernel
theorem dX9_thin_13 : decode cX9_thin 13 = .ok (.ireturn, 1) := by decide +kernel
theorem dX9_thick_0 : decode cX9_thick 0 = .ok (.aload_n 0, 1) := by decide +kernel
theorem dX9_thick_1 : decode cX9_thick 1 = .ok (.getfield 12, 3) := by decide +kernel
theorem dX9_thick_4 : decode cX9_thick 4 = .ok (.getfield 122, 3) := by decide +kernel
theorem dX9_thick_7 : decode cX9_thick 7 = .ok (.getfield 126, 3) := by decide +kernel
theorem dX9_thick_10 : decode cX9_thick 10 = .ok (.invokestatic 305, 3) := by decide +kernel
theorem dX9_thick_13 : decode cX9_thick 13 = .ok (.ireturn, 1) := by decide +kernel
theorem dX9_apart_0 : decode cX9_apart 0 = .ok (.aload_n 0, 1) := by decide +kernel
theorem dX9_apart_1 : decode cX9_apart 1 = .ok (.getfield 12, 3) := by decide +kernel
theorem dX9_apart_4 : decode cX9_apart 4 = .ok (.getfield 122, 3) := by decide +kernel
theorem dX9_apart_7 : decode cX9_apart 7 = .ok (.invokevirtual 308, 3) := by decide +kernel
theorem dX9_apart_10 : decode cX9_apart 10 = .ok (.ireturn, 1) := by decide +kernel
theorem dX9_fallen_0 : decode cX9_fallen 0 = .ok (.aload_n 0, 1) := by decide +kernel
theorem dX9_fallen_1 : decode cX9_fallen 1 = .ok (.getfield 12, 3) := by decide +kernel
theorem dX9_fallen_4 : decode cX9_fallen 4 = .ok (.getfield 122, 3) := by decide +kernel
theorem dX9_fallen_7 : decode cX9_fallen 7 = .ok (.iconst (-1), 1) := by decide +kernel
theorem dX9_fallen_8 : decode cX9_fallen 8 = .ok (.invokevirtual 186, 3) := by decide +kernel
theorem dX9_fallen_11 : decode cX9_fallen 11 = .ok (.ireturn, 1) := by decide +kernel
theorem dX9_said_0 : decode cX9_said 0 = .ok (.iload_n 1, 1) := by decide +kernel
theorem dX9_said_1 : decode cX9_said 1 = .ok (.iconst (-1), 1) := by decide +kernel
theorem dX9_said_2 : decode cX9_said 2 = .ok (.if_icmp .ne 13, 3) := by decide +kernel
theorem dX9_said_5 : decode cX9_said 5 = .ok (.aload_n 0, 1) := by decide +kernel
theorem dX9_said_6 : decode cX9_said 6 = .ok (.getfield 12, 3) := by decide +kernel
theorem dX9_said_9 : decode cX9_said 9 = .ok (.iconst 0, 1) := by decide +kernel
theorem dX9_said_10 : decode cX9_said 10 = .ok (.putfield 311, 3) := by decide +kernel
theorem dX9_said_13 : decode cX9_said 13 = .ok (.iconst 0, 1) := by decide +kernel
theorem dX9_said_14 : decode cX9_said 14 = .ok (.ireturn, 1) := by decide +kernel
theorem dX9_said_15 : decode cX9_said 15 = .ok (.aload_n 0, 1) := by decide +kernel
theorem dX9_said_16 : decode cX9_said 16 = .ok (.iload_n 1, 1) := by decide +kernel
theorem dX9_said_17 : decode cX9_said 17 = .ok (.invokevirtual 119, 3) := by decide +kernel
theorem dX9_said_20 : decode cX9_said 20 = .ok (.ifCond .eq 25, 3) := by decide +kernel
theorem dX9_said_23 : decode cX9_said 23 = .ok (.iload_n 2, 1) := by decide +kernel
theorem dX9_said_24 : decode cX9_said 24 = .ok (.invokestatic 68, 3) := by decide +kernel
theorem dX9_said_27 : decode cX9_said 27 = .ok (.ifCond .eq 18, 3) := by decide +kernel
theorem dX9_said_30 : decode cX9_said 30 = .ok (.iload_n 3, 1) := by decide +kernel
theorem dX9_said_31 : decode cX9_said 31 = .ok (.ifCond .lt 14, 3) := by decide +kernel
theorem dX9_said_34 : decode cX9_said 34 = .ok (.iload_n 3, 1) := by decide +kernel
theorem dX9_said_35 : decode cX9_said 35 = .ok (.sipush 9999, 3) := by decide +kernel
theorem dX9_said_38 : decode cX9_said 38 = .ok (.if_icmp .gt 7, 3) := by decide +kernel
theorem dX9_said_41 : decode cX9_said 41 = .ok (.iconst 1, 1) := by decide +kernel
theorem dX9_said_42 : decode cX9_said 42 = .ok (.goto 4, 3) := by decide +kernel
theorem dX9_said_45 : decode cX9_said 45 = .ok (.iconst 0, 1) := by decide +kernel
theorem dX9_said_46 : decode cX9_said 46 = .ok (.istore 4, 2) := by decide +kernel
theorem dX9_said_48 : decode cX9_said 48 = .ok (.iload 4, 2) := by decide +kernel
theorem dX9_said_50 : decode cX9_said 50 = .ok (.ifCond .eq 15, 3) := by decide +kernel
theorem dX9_said_53 : decode cX9_said 53 = .ok (.aload_n 0, 1) := by decide +kernel
theorem dX9_said_54 : decode cX9_said 54 = .ok (.getfield 12, 3) := by decide +kernel
theorem dX9_said_57 : decode cX9_said 57 = .ok (.getfield 311, 3) := by decide +kernel
theorem dX9_said_60 : decode cX9_said 60 = .ok (.bipush 8, 2) := by decide +kernel
theorem dX9_said_62 : decode cX9_said 62 = .ok (.if_icmp .lt 6, 3) := by decide +kernel
theorem dX9_said_65 : decode cX9_said 65 = .ok (.bipush (-2), 2) := by decide +kernel
theorem dX9_said_67 : decode cX9_said 67 = .ok (.ireturn, 1) := by decide +kernel
theorem dX9_said_68 : decode cX9_said 68 = .ok (.aload_n 0, 1) := by decide +kernel
theorem dX9_said_69 : decode cX9_said 69 = .ok (.getfield 12, 3) := by decide +kernel
theorem dX9_said_72 : decode cX9_said 72 = .ok (.iload_n 1, 1) := by decide +kernel
theorem dX9_said_73 : decode cX9_said 73 = .ok (.iload_n 2, 1) := by decide +kernel
theorem dX9_said_74 : decode cX9_said 74 = .ok (.iload_n 3, 1) := by decide +kernel
theorem dX9_said_75 : decode cX9_said 75 = .ok (.invokevirtual 314, 3) := by decide +kernel
theorem dX9_said_78 : decode cX9_said 78 = .ok (.aload_n 0, 1) := by decide +kernel
theorem dX9_said_79 : decode cX9_said 79 = .ok (.getfield 12, 3) := by decide +kernel
theorem dX9_said_82 : decode cX9_said 82 = .ok (.getfield 311, 3) := by decide +kernel
theorem dX9_said_85 : decode cX9_said 85 = .ok (.ireturn, 1) := by decide +kernel
theorem dX9_whose_0 : decode cX9_whose 0 = .ok (.iconst 0, 1) := by decide +kernel
theorem dX9_whose_1 : decode cX9_whose 1 = .ok (.istore_n 1, 1) := by decide +kernel
theorem dX9_whose_2 : decode cX9_whose 2 = .ok (.iconst 0, 1) := by decide +kernel
theorem dX9_whose_3 : decode cX9_whose 3 = .ok (.istore_n 2, 1) := by decide +kernel
theorem dX9_whose_4 : decode cX9_whose 4 = .ok (.iload_n 2, 1) := by decide +kernel
theorem dX9_whose_5 : decode cX9_whose 5 = .ok (.aload_n 0, 1) := by decide +kernel
theorem dX9_whose_6 : decode cX9_whose 6 = .ok (.getfield 12, 3) := by decide +kernel
theorem dX9_whose_9 : decode cX9_whose 9 = .ok (.getfield 92, 3) := by decide +kernel
theorem dX9_whose_12 : decode cX9_whose 12 = .ok (.if_icmp .ge 26, 3) := by decide +kernel
theorem dX9_whose_15 : decode cX9_whose 15 = .ok (.aload_n 0, 1) := by decide +kernel
theorem dX9_whose_16 : decode cX9_whose 16 = .ok (.getfield 24, 3) := by decide +kernel
theorem dX9_whose_19 : decode cX9_whose 19 = .ok (.iload_n 2, 1) := by decide +kernel
theorem dX9_whose_20 : decode cX9_whose 20 = .ok (.invokevirtual 318, 3) := by decide +kernel
theorem dX9_whose_23 : decode cX9_whose 23 = .ok (.ifCond .eq 9, 3) := by decide +kernel
theorem dX9_whose_26 : decode cX9_whose 26 = .ok (.iload_n 1, 1) := by decide +kernel
theorem dX9_whose_27 : decode cX9_whose 27 = .ok (.iconst 1, 1) := by decide +kernel
theorem dX9_whose_28 : decode cX9_whose 28 = .ok (.iload_n 2, 1) := by decide +kernel
theorem dX9_whose_29 : decode cX9_whose 29 = .ok (.ishl, 1) := by decide +kernel
theorem dX9_whose_30 : decode cX9_whose 30 = .ok (.ior, 1) := by decide +kernel
theorem dX9_whose_31 : decode cX9_whose 31 = .ok (.istore_n 1, 1) := by decide +kernel
theorem dX9_whose_32 : decode cX9_whose 32 = .ok (.iinc 2 1, 3) := by decide +kernel
theorem dX9_whose_35 : decode cX9_whose 35 = .ok (.goto (-31), 3) := by decide +kernel
theorem dX9_whose_38 : decode cX9_whose 38 = .ok (.iload_n 1, 1) := by decide +kernel
theorem dX9_whose_39 : decode cX9_whose 39 = .ok (.ireturn, 1) := by decide +kernel
theorem dX9_ledger_0 : decode cX9_ledger 0 = .ok (.iload_n 1, 1) := by decide +kernel
theorem dX9_ledger_1 : decode cX9_ledger 1 = .ok (.iconst (-1), 1) := by decide +kernel
theorem dX9_ledger_2 : decode cX9_ledger 2 = .ok (.if_icmp .eq 11, 3) := by decide +kernel
theorem dX9_ledger_5 : decode cX9_ledger 5 = .ok (.aload_n 0, 1) := by decide +kernel
theorem dX9_ledger_6 : decode cX9_ledger 6 = .ok (.iload_n 1, 1) := by decide +kernel
theorem dX9_ledger_7 : decode cX9_ledger 7 = .ok (.invokevirtual 119, 3) := by decide +kernel
theorem dX9_ledger_10 : decode cX9_ledger 10 = .ok (.ifCond .eq 17, 3) := by decide +kernel
theorem dX9_ledger_13 : decode cX9_ledger 13 = .ok (.aload_n 0, 1) := by decide +kernel
theorem dX9_ledger_14 : decode cX9_ledger 14 = .ok (.getfield 12, 3) := by decide +kernel
theorem dX9_ledger_17 : decode cX9_ledger 17 = .ok (.getfield 122, 3) := by decide +kernel
theorem dX9_ledger_20 : decode cX9_ledger 20 = .ok (.iload_n 1, 1) := by decide +kernel
theorem dX9_ledger_21 : decode cX9_ledger 21 = .ok (.invokevirtual 321, 3) := by decide +kernel
theorem dX9_ledger_24 : decode cX9_ledger 24 = .ok (.goto 5, 3) := by decide +kernel
theorem dX9_ledger_27 : decode cX9_ledger 27 = .ok (.bipush (-2), 2) := by decide +kernel
theorem dX9_ledger_29 : decode cX9_ledger 29 = .ok (.ireturn, 1) := by decide +kernel
theorem dX9_image_0 : decode cX9_image 0 = .ok (.aload_n 0, 1) := by decide +kernel
theorem dX9_image_1 : decode cX9_image 1 = .ok (.getfield 16, 3) := by decide +kernel
theorem dX9_image_4 : decode cX9_image 4 = .ok (.aload_n 0, 1) := by decide +kernel
theorem dX9_image_5 : decode cX9_image 5 = .ok (.getfield 12, 3) := by decide +kernel
theorem dX9_image_8 : decode cX9_image 8 = .ok (.invokevirtual 324, 3) := by decide +kernel
theorem dX9_image_11 : decode cX9_image 11 = .ok (.aload_n 0, 1) := by decide +kernel
theorem dX9_image_12 : decode cX9_image 12 = .ok (.getfield 12, 3) := by decide +kernel
theorem dX9_image_15 : decode cX9_image 15 = .ok (.getfield 122, 3) := by decide +kernel
theorem dX9_image_18 : decode cX9_image 18 = .ok (.getfield 151, 3) := by decide +kernel
theorem dX9_image_21 : decode cX9_image 21 = .ok (.ireturn, 1) := by decide +kernel
theorem dX9_back_0 : decode cX9_back 0 = .ok (.aload_n 0, 1) := by decide +kernel
theorem dX9_back_1 : decode cX9_back 1 = .ok (.getfield 12, 3) := by decide +kernel
theorem dX9_back_4 : decode cX9_back 4 = .ok (.aload_n 0, 1) := by decide +kernel
theorem dX9_back_5 : decode cX9_back 5 = .ok (.getfield 16, 3) := by decide +kernel
theorem dX9_back_8 : decode cX9_back 8 = .ok (.invokevirtual 324, 3) := by decide +kernel
theorem dX9_back_11 : decode cX9_back 11 = .ok (.aload_n 0, 1) := by decide +kernel
theorem dX9_back_12 : decode cX9_back 12 = .ok (.getfield 12, 3) := by decide +kernel
theorem dX9_back_15 : decode cX9_back 15 = .ok (.getfield 122, 3) := by decide +kernel
theorem dX9_back_18 : decode cX9_back 18 = .ok (.getfield 151, 3) := by decide +kernel
theorem dX9_back_21 : decode cX9_back 21 = .ok (.ireturn, 1) := by decide +kernel
theorem dX9_about_0 : decode cX9_about 0 = .ok (.iload_n 1, 1) := by decide +kernel
theorem dX9_about_1 : decode cX9_about 1 = .ok (.tableswitch 99 0 6 #[43, 51, 59, 67, 75, 83, 91], 43) := by decide +kernel
theorem dX9_about_44 : decode cX9_about 44 = .ok (.aload_n 0, 1) := by decide +kernel
theorem dX9_about_45 : decode cX9_about 45 = .ok (.getfield 12, 3) := by decide +kernel
theorem dX9_about_48 : decode cX9_about 48 = .ok (.getfield 60, 3) := by decide +kernel
theorem dX9_about_51 : decode cX9_about 51 = .ok (.ireturn, 1) := by decide +kernel
theorem dX9_about_52 : decode cX9_about 52 = .ok (.aload_n 0, 1) := by decide +kernel
theorem dX9_about_53 : decode cX9_about 53 = .ok (.getfield 12, 3) := by decide +kernel
theorem dX9_about_56 : decode cX9_about 56 = .ok (.getfield 76, 3) := by decide +kernel
theorem dX9_about_59 : decode cX9_about 59 = .ok (.ireturn, 1) := by decide +kernel
theorem dX9_about_60 : decode cX9_about 60 = .ok (.aload_n 0, 1) := by decide +kernel
theorem dX9_about_61 : decode cX9_about 61 = .ok (.getfield 12, 3) := by decide +kernel
theorem dX9_about_64 : decode cX9_about 64 = .ok (.getfield 92, 3) := by decide +kernel
theorem dX9_about_67 : decode cX9_about 67 = .ok (.ireturn, 1) := by decide +kernel
theorem dX9_about_68 : decode cX9_about 68 = .ok (.aload_n 0, 1) := by decide +kernel
theorem dX9_about_69 : decode cX9_about 69 = .ok (.getfield 12, 3) := by decide +kernel
theorem dX9_about_72 : decode cX9_about 72 = .ok (.getfield 116, 3) := by decide +kernel
theorem dX9_about_75 : decode cX9_about 75 = .ok (.ireturn, 1) := by decide +kernel
theorem dX9_about_76 : decode cX9_about 76 = .ok (.aload_n 0, 1) := by decide +kernel
theorem dX9_about_77 : decode cX9_about 77 = .ok (.getfield 12, 3) := by decide +kernel
theorem dX9_about_80 : decode cX9_about 80 = .ok (.getfield 327, 3) := by decide +kernel
theorem dX9_about_83 : decode cX9_about 83 = .ok (.ireturn, 1) := by decide +kernel
theorem dX9_about_84 : decode cX9_about 84 = .ok (.aload_n 0, 1) := by decide +kernel
theorem dX9_about_85 : decode cX9_about 85 = .ok (.getfield 12, 3) := by decide +kernel
theorem dX9_about_88 : decode cX9_about 88 = .ok (.getfield 311, 3) := by decide +kernel
theorem dX9_about_91 : decode cX9_about 91 = .ok (.ireturn, 1) := by decide +kernel
theorem dX9_about_92 : decode cX9_about 92 = .ok (.aload_n 0, 1) := by decide +kernel
theorem dX9_about_93 : decode cX9_about 93 = .ok (.getfield 47, 3) := by decide +kernel
theorem dX9_about_96 : decode cX9_about 96 = .ok (.getfield 89, 3) := by decide +kernel
theorem dX9_about_99 : decode cX9_about 99 = .ok (.ireturn, 1) := by decide +kernel
theorem dX9_about_100 : decode cX9_about 100 = .ok (.bipush (-2), 2) := by decide +kernel
theorem dX9_about_102 : decode cX9_about 102 = .ok (.ireturn, 1) := by decide +kernel
theorem dX9_isCell_0 : decode cX9_isCell 0 = .ok (.iload_n 0, 1) := by decide +kernel
theorem dX9_isCell_1 : decode cX9_isCell 1 = .ok (.ifCond .lt 13, 3) := by decide +kernel
theorem dX9_isCell_4 : decode cX9_isCell 4 = .ok (.iload_n 0, 1) := by decide +kernel
theorem dX9_isCell_5 : decode cX9_isCell 5 = .ok (.bipush 12, 2) := by decide +kernel
theorem dX9_isCell_7 : decode cX9_isCell 7 = .ok (.if_icmp .ge 7, 3) := by decide +kernel
theorem dX9_isCell_10 : decode cX9_isCell 10 = .ok (.iconst 1, 1) := by decide +kernel
theorem dX9_isCell_11 : decode cX9_isCell 11 = .ok (.goto 4, 3) := by decide +kernel
theorem dX9_isCell_14 : decode cX9_isCell 14 = .ok (.iconst 0, 1) := by decide +kernel
theorem dX9_isCell_15 : decode cX9_isCell 15 = .ok (.ireturn, 1) := by decide +kernel
theorem dX9_isRow_0 : decode cX9_isRow 0 = .ok (.iload_n 0, 1) := by decide +kernel
theorem dX9_isRow_1 : decode cX9_isRow 1 = .ok (.ifCond .lt 18, 3) := by decide +kernel
theorem dX9_isRow_4 : decode cX9_isRow 4 = .ok (.iload_n 0, 1) := by decide +kernel
theorem dX9_isRow_5 : decode cX9_isRow 5 = .ok (.iload_n 1, 1) := by decide +kernel
theorem dX9_isRow_6 : decode cX9_isRow 6 = .ok (.if_icmp .gt 13, 3) := by decide +kernel
theorem dX9_isRow_9 : decode cX9_isRow 9 = .ok (.iload_n 1, 1) := by decide +kernel
theorem dX9_isRow_10 : decode cX9_isRow 10 = .ok (.bipush 12, 2) := by decide +kernel
theorem dX9_isRow_12 : decode cX9_isRow 12 = .ok (.if_icmp .ge 7, 3) := by decide +kernel
theorem dX9_isRow_15 : decode cX9_isRow 15 = .ok (.iconst 1, 1) := by decide +kernel
theorem dX9_isRow_16 : decode cX9_isRow 16 = .ok (.goto 4, 3) := by decide +kernel
theorem dX9_isRow_19 : decode cX9_isRow 19 = .ok (.iconst 0, 1) := by decide +kernel
theorem dX9_isRow_20 : decode cX9_isRow 20 = .ok (.ireturn, 1) := by decide +kernel
theorem dX9_isHand_0 : decode cX9_isHand 0 = .ok (.iload_n 1, 1) := by decide +kernel
theorem dX9_isHand_1 : decode cX9_isHand 1 = .ok (.ifCond .lt 18, 3) := by decide +kernel
theorem dX9_isHand_4 : decode cX9_isHand 4 = .ok (.iload_n 1, 1) := by decide +kernel
theorem dX9_isHand_5 : decode cX9_isHand 5 = .ok (.aload_n 0, 1) := by decide +kernel
theorem dX9_isHand_6 : decode cX9_isHand 6 = .ok (.getfield 12, 3) := by decide +kernel
theorem dX9_isHand_9 : decode cX9_isHand 9 = .ok (.getfield 60, 3) := by decide +kernel
theorem dX9_isHand_12 : decode cX9_isHand 12 = .ok (.if_icmp .ge 7, 3) := by decide +kernel
theorem dX9_isHand_15 : decode cX9_isHand 15 = .ok (.iconst 1, 1) := by decide +kernel
theorem dX9_isHand_16 : decode cX9_isHand 16 = .ok (.goto 4, 3) := by decide +kernel
theorem dX9_isHand_19 : decode cX9_isHand 19 = .ok (.iconst 0, 1) := by decide +kernel
theorem dX9_isHand_20 : decode cX9_isHand 20 = .ok (.ireturn, 1) := by decide +kernel
theorem dX9_isTown_0 : decode cX9_isTown 0 = .ok (.iload_n 1, 1) := by decide +kernel
theorem dX9_isTown_1 : decode cX9_isTown 1 = .ok (.ifCond .lt 18, 3) := by decide +kernel
theorem dX9_isTown_4 : decode cX9_isTown 4 = .ok (.iload_n 1, 1) := by decide +kernel
theorem dX9_isTown_5 : decode cX9_isTown 5 = .ok (.aload_n 0, 1) := by decide +kernel
theorem dX9_isTown_6 : decode cX9_isTown 6 = .ok (.getfield 12, 3) := by decide +kernel
theorem dX9_isTown_9 : decode cX9_isTown 9 = .ok (.getfield 76, 3) := by decide +kernel
theorem dX9_isTown_12 : decode cX9_isTown 12 = .ok (.if_icmp .ge 7, 3) := by decide +kernel
theorem dX9_isTown_15 : decode cX9_isTown 15 = .ok (.iconst 1, 1) := by decide +kernel
theorem dX9_isTown_16 : decode cX9_isTown 16 = .ok (.goto 4, 3) := by decide +kernel
theorem dX9_isTown_19 : decode cX9_isTown 19 = .ok (.iconst 0, 1) := by decide +kernel
theorem dX9_isTown_20 : decode cX9_isTown 20 = .ok (.ireturn, 1) := by decide +kernel
theorem dX9_isText_0 : decode cX9_isText 0 = .ok (.iload_n 1, 1) := by decide +kernel
theorem dX9_isText_1 : decode cX9_isText 1 = .ok (.ifCond .lt 30, 3) := by decide +kernel
theorem dX9_isText_4 : decode cX9_isText 4 = .ok (.iload_n 1, 1) := by decide +kernel
theorem dX9_isText_5 : decode cX9_isText 5 = .ok (.aload_n 0, 1) := by decide +kernel
theorem dX9_isText_6 : decode cX9_isText 6 = .ok (.getfield 12, 3) := by decide +kernel
theorem dX9_isText_9 : decode cX9_isText 9 = .ok (.getfield 92, 3) := by decide +kernel
theorem dX9_isText_12 : decode cX9_isText 12 = .ok (.if_icmp .ge 19, 3) := by decide +kernel
theorem dX9_isText_15 : decode cX9_isText 15 = .ok (.aload_n 0, 1) := by decide +kernel
theorem dX9_isText_16 : decode cX9_isText 16 = .ok (.getfield 12, 3) := by decide +kernel
theorem dX9_isText_19 : decode cX9_isText 19 = .ok (.getfield 99, 3) := by decide +kernel
theorem dX9_isText_22 : decode cX9_isText 22 = .ok (.iload_n 1, 1) := by decide +kernel
theorem dX9_isText_23 : decode cX9_isText 23 = .ok (.aaload, 1) := by decide +kernel
theorem dX9_isText_24 : decode cX9_isText 24 = .ok (.ifnull 7, 3) := by decide +kernel
theorem dX9_isText_27 : decode cX9_isText 27 = .ok (.iconst 1, 1) := by decide +kernel
theorem dX9_isText_28 : decode cX9_isText 28 = .ok (.goto 4, 3) := by decide +kernel
theorem dX9_isText_31 : decode cX9_isText 31 = .ok (.iconst 0, 1) := by decide +kernel
theorem dX9_isText_32 : decode cX9_isText 32 = .ok (.ireturn, 1) := by decide +kernel
theorem dX9_passTurns_0 : decode cX9_passTurns 0 = .ok (.iconst 0, 1) := by decide +kernel
theorem dX9_passTurns_1 : decode cX9_passTurns 1 = .ok (.istore_n 2, 1) := by decide +kernel
theorem dX9_passTurns_2 : decode cX9_passTurns 2 = .ok (.iconst 0, 1) := by decide +kernel
theorem dX9_passTurns_3 : decode cX9_passTurns 3 = .ok (.istore_n 3, 1) := by decide +kernel
theorem dX9_passTurns_4 : decode cX9_passTurns 4 = .ok (.iload_n 3, 1) := by decide +kernel
theorem dX9_passTurns_5 : decode cX9_passTurns 5 = .ok (.iload_n 1, 1) := by decide +kernel
theorem dX9_passTurns_6 : decode cX9_passTurns 6 = .ok (.if_icmp .ge 49, 3) := by decide +kernel
theorem dX9_passTurns_9 : decode cX9_passTurns 9 = .ok (.aload_n 0, 1) := by decide +kernel
theorem dX9_passTurns_10 : decode cX9_passTurns 10 = .ok (.getfield 12, 3) := by decide +kernel
theorem dX9_passTurns_13 : decode cX9_passTurns 13 = .ok (.getfield 122, 3) := by decide +kernel
theorem dX9_passTurns_16 : decode cX9_passTurns 16 = .ok (.getfield 151, 3) := by decide +kernel
theorem dX9_passTurns_19 : decode cX9_passTurns 19 = .ok (.sipush 9999, 3) := by decide +kernel
theorem dX9_passTurns_22 : decode cX9_passTurns 22 = .ok (.if_icmp .ge 33, 3) := by decide +kernel
theorem dX9_passTurns_25 : decode cX9_passTurns 25 = .ok (.aload_n 0, 1) := by decide +kernel
theorem dX9_passTurns_26 : decode cX9_passTurns 26 = .ok (.getfield 12, 3) := by decide +kernel
theorem dX9_passTurns_29 : decode cX9_passTurns 29 = .ok (.invokevirtual 131, 3) := by decide +kernel
theorem dX9_passTurns_32 : decode cX9_passTurns 32 = .ok (.aload_n 0, 1) := by decide +kernel
theorem dX9_passTurns_33 : decode cX9_passTurns 33 = .ok (.getfield 24, 3) := by decide +kernel
theorem dX9_passTurns_36 : decode cX9_passTurns 36 = .ok (.aload_n 0, 1) := by decide +kernel
theorem dX9_passTurns_37 : decode cX9_passTurns 37 = .ok (.getfield 12, 3) := by decide +kernel
theorem dX9_passTurns_40 : decode cX9_passTurns 40 = .ok (.getfield 122, 3) := by decide +kernel
theorem dX9_passTurns_43 : decode cX9_passTurns 43 = .ok (.invokevirtual 330, 3) := by decide +kernel
theorem dX9_passTurns_46 : decode cX9_passTurns 46 = .ok (.iinc 2 1, 3) := by decide +kernel
theorem dX9_passTurns_49 : decode cX9_passTurns 49 = .ok (.iinc 3 1, 3) := by decide +kernel
theorem dX9_passTurns_52 : decode cX9_passTurns 52 = .ok (.goto (-48), 3) := by decide +kernel
theorem dX9_passTurns_55 : decode cX9_passTurns 55 = .ok (.iload_n 2, 1) := by decide +kernel
theorem dX9_passTurns_56 : decode cX9_passTurns 56 = .ok (.ireturn, 1) := by decide +kernel
theorem dX9_isDone_0 : decode cX9_isDone 0 = .ok (.iload_n 1, 1) := by decide +kernel
theorem dX9_isDone_1 : decode cX9_isDone 1 = .ok (.tableswitch 154 2 9 #[47, 62, 69, 84, 101, 118, 132, 139], 47) := by decide +kernel
theorem dX9_isDone_48 : decode cX9_isDone 48 = .ok (.aload_n 0, 1) := by decide +kernel
theorem dX9_isDone_49 : decode cX9_isDone 49 = .ok (.iload_n 2, 1) := by decide +kernel
theorem dX9_isDone_50 : decode cX9_isDone 50 = .ok (.invokevirtual 333, 3) := by decide +kernel
theorem dX9_isDone_53 : decode cX9_isDone 53 = .ok (.iconst (-1), 1) := by decide +kernel
theorem dX9_isDone_54 : decode cX9_isDone 54 = .ok (.if_icmp .eq 7, 3) := by decide +kernel
theorem dX9_isDone_57 : decode cX9_isDone 57 = .ok (.iconst 1, 1) := by decide +kernel
theorem dX9_isDone_58 : decode cX9_isDone 58 = .ok (.goto 4, 3) := by decide +kernel
theorem dX9_isDone_61 : decode cX9_isDone 61 = .ok (.iconst 0, 1) := by decide +kernel
theorem dX9_isDone_62 : decode cX9_isDone 62 = .ok (.ireturn, 1) := by decide +kernel
theorem dX9_isDone_63 : decode cX9_isDone 63 = .ok (.aload_n 0, 1) := by decide +kernel
theorem dX9_isDone_64 : decode cX9_isDone 64 = .ok (.iload_n 3, 1) := by decide +kernel
theorem dX9_isDone_65 : decode cX9_isDone 65 = .ok (.iload_n 2, 1) := by decide +kernel
theorem dX9_isDone_66 : decode cX9_isDone 66 = .ok (.invokevirtual 336, 3) := by decide +kernel
theorem dX9_isDone_69 : decode cX9_isDone 69 = .ok (.ireturn, 1) := by decide +kernel
theorem dX9_isDone_70 : decode cX9_isDone 70 = .ok (.aload_n 0, 1) := by decide +kernel
theorem dX9_isDone_71 : decode cX9_isDone 71 = .ok (.iload_n 2, 1) := by decide +kernel
theorem dX9_isDone_72 : decode cX9_isDone 72 = .ok (.invokevirtual 339, 3) := by decide +kernel
theorem dX9_isDone_75 : decode cX9_isDone 75 = .ok (.iconst (-1), 1) := by decide +kernel
theorem dX9_isDone_76 : decode cX9_isDone 76 = .ok (.if_icmp .eq 7, 3) := by decide +kernel
theorem dX9_isDone_79 : decode cX9_isDone 79 = .ok (.iconst 1, 1) := by decide +kernel
theorem dX9_isDone_80 : decode cX9_isDone 80 = .ok (.goto 4, 3) := by decide +kernel
theorem dX9_isDone_83 : decode cX9_isDone 83 = .ok (.iconst 0, 1) := by decide +kernel
theorem dX9_isDone_84 : decode cX9_isDone 84 = .ok (.ireturn, 1) := by decide +kernel
theorem dX9_isDone_85 : decode cX9_isDone 85 = .ok (.aload_n 0, 1) := by decide +kernel
theorem dX9_isDone_86 : decode cX9_isDone 86 = .ok (.iload_n 3, 1) := by decide +kernel
theorem dX9_isDone_87 : decode cX9_isDone 87 = .ok (.iload_n 2, 1) := by decide +kernel
theorem dX9_isDone_88 : decode cX9_isDone 88 = .ok (.iconst 0, 1) := by decide +kernel
theorem dX9_isDone_89 : decode cX9_isDone 89 = .ok (.invokevirtual 342, 3) := by decide +kernel
theorem dX9_isDone_92 : decode cX9_isDone 92 = .ok (.iconst (-1), 1) := by decide +kernel
theorem dX9_isDone_93 : decode cX9_isDone 93 = .ok (.if_icmp .eq 7, 3) := by decide +kernel
theorem dX9_isDone_96 : decode cX9_isDone 96 = .ok (.iconst 1, 1) := by decide +kernel
theorem dX9_isDone_97 : decode cX9_isDone 97 = .ok (.goto 4, 3) := by decide +kernel
theorem dX9_isDone_100 : decode cX9_isDone 100 = .ok (.iconst 0, 1) := by decide +kernel
theorem dX9_isDone_101 : decode cX9_isDone 101 = .ok (.ireturn, 1) := by decide +kernel
theorem dX9_isDone_102 : decode cX9_isDone 102 = .ok (.aload_n 0, 1) := by decide +kernel
theorem dX9_isDone_103 : decode cX9_isDone 103 = .ok (.iload_n 3, 1) := by decide +kernel
theorem dX9_isDone_104 : decode cX9_isDone 104 = .ok (.iload_n 2, 1) := by decide +kernel
theorem dX9_isDone_105 : decode cX9_isDone 105 = .ok (.iconst 1, 1) := by decide +kernel
theorem dX9_isDone_106 : decode cX9_isDone 106 = .ok (.invokevirtual 342, 3) := by decide +kernel
theorem dX9_isDone_109 : decode cX9_isDone 109 = .ok (.iconst (-1), 1) := by decide +kernel
theorem dX9_isDone_110 : decode cX9_isDone 110 = .ok (.if_icmp .eq 7, 3) := by decide +kernel
theorem dX9_isDone_113 : decode cX9_isDone 113 = .ok (.iconst 1, 1) := by decide +kernel
theorem dX9_isDone_114 : decode cX9_isDone 114 = .ok (.goto 4, 3) := by decide +kernel
theorem dX9_isDone_117 : decode cX9_isDone 117 = .ok (.iconst 0, 1) := by decide +kernel
theorem dX9_isDone_118 : decode cX9_isDone 118 = .ok (.ireturn, 1) := by decide +kernel
theorem dX9_isDone_119 : decode cX9_isDone 119 = .ok (.aload_n 0, 1) := by decide +kernel
theorem dX9_isDone_120 : decode cX9_isDone 120 = .ok (.invokevirtual 346, 3) := by decide +kernel
theorem dX9_isDone_123 : decode cX9_isDone 123 = .ok (.iconst (-1), 1) := by decide +kernel
theorem dX9_isDone_124 : decode cX9_isDone 124 = .ok (.if_icmp .eq 7, 3) := by decide +kernel
theorem dX9_isDone_127 : decode cX9_isDone 127 = .ok (.iconst 1, 1) := by decide +kernel
theorem dX9_isDone_128 : decode cX9_isDone 128 = .ok (.goto 4, 3) := by decide +kernel
theorem dX9_isDone_131 : decode cX9_isDone 131 = .ok (.iconst 0, 1) := by decide +kernel
theorem dX9_isDone_132 : decode cX9_isDone 132 = .ok (.ireturn, 1) := by decide +kernel
theorem dX9_isDone_133 : decode cX9_isDone 133 = .ok (.aload_n 0, 1) := by decide +kernel
theorem dX9_isDone_134 : decode cX9_isDone 134 = .ok (.iload_n 3, 1) := by decide +kernel
theorem dX9_isDone_135 : decode cX9_isDone 135 = .ok (.iload_n 2, 1) := by decide +kernel
theorem dX9_isDone_136 : decode cX9_isDone 136 = .ok (.invokevirtual 349, 3) := by decide +kernel
theorem dX9_isDone_139 : decode cX9_isDone 139 = .ok (.ireturn, 1) := by decide +kernel
theorem dX9_isDone_140 : decode cX9_isDone 140 = .ok (.aload_n 0, 1) := by decide +kernel
theorem dX9_isDone_141 : decode cX9_isDone 141 = .ok (.iload_n 2, 1) := by decide +kernel
theorem dX9_isDone_142 : decode cX9_isDone 142 = .ok (.invokevirtual 157, 3) := by decide +kernel
theorem dX9_isDone_145 : decode cX9_isDone 145 = .ok (.iload_n 2, 1) := by decide +kernel
theorem dX9_isDone_146 : decode cX9_isDone 146 = .ok (.if_icmp .ne 7, 3) := by decide +kernel
theorem dX9_isDone_149 : decode cX9_isDone 149 = .ok (.iconst 1, 1) := by decide +kernel
theorem dX9_isDone_150 : decode cX9_isDone 150 = .ok (.goto 4, 3) := by decide +kernel
theorem dX9_isDone_153 : decode cX9_isDone 153 = .ok (.iconst 0, 1) := by decide +kernel
theorem dX9_isDone_154 : decode cX9_isDone 154 = .ok (.ireturn, 1) := by decide +kernel
theorem dX9_isDone_155 : decode cX9_isDone 155 = .ok (.iconst 1, 1) := by decide +kernel
theorem dX9_isDone_156 : decode cX9_isDone 156 = .ok (.ireturn, 1) := by decide +kernel
