theorem dX9_stop_17 : decode cX9_stop 17 = .ok (.aload_n 0, 1) := by decide +kernel
theorem dX9_stop_18 : decode cX9_stop 18 = .ok (.iconst 1, 1) := by decide +kernel
theorem dX9_stop_19 : decode cX9_stop 19 = .ok (.invokevirtual 103, 3) := by decide +kernel
theorem dX9_stop_22 : decode cX9_stop 22 = .ok (.ireturn, 1) := by decide +kernel
theorem dX9_stop_23 : decode cX9_stop 23 = .ok (.aload_n 0, 1) := by decide +kernel
theorem dX9_stop_24 : decode cX9_stop 24 = .ok (.iload_n 1, 1) := by decide +kernel
theorem dX9_stop_25 : decode cX9_stop 25 = .ok (.invokevirtual 196, 3) := by decide +kernel
theorem dX9_stop_28 : decode cX9_stop 28 = .ok (.bipush (-3), 2) := by decide +kernel
theorem dX9_stop_30 : decode cX9_stop 30 = .ok (.istore_n 2, 1) := by decide +kernel
theorem dX9_stop_31 : decode cX9_stop 31 = .ok (.aload_n 0, 1) := by decide +kernel
theorem dX9_stop_32 : decode cX9_stop 32 = .ok (.iload_n 1, 1) := by decide +kernel
theorem dX9_stop_33 : decode cX9_stop 33 = .ok (.invokevirtual 114, 3) := by decide +kernel
theorem dX9_stop_36 : decode cX9_stop 36 = .ok (.ifCond .eq 22, 3) := by decide +kernel
theorem dX9_stop_39 : decode cX9_stop 39 = .ok (.aload_n 0, 1) := by decide +kernel
theorem dX9_stop_40 : decode cX9_stop 40 = .ok (.iload_n 1, 1) := by decide +kernel
theorem dX9_stop_41 : decode cX9_stop 41 = .ok (.invokevirtual 305, 3) := by decide +kernel
theorem dX9_stop_44 : decode cX9_stop 44 = .ok (.istore_n 2, 1) := by decide +kernel
theorem dX9_stop_45 : decode cX9_stop 45 = .ok (.aload_n 0, 1) := by decide +kernel
theorem dX9_stop_46 : decode cX9_stop 46 = .ok (.iload_n 1, 1) := by decide +kernel
theorem dX9_stop_47 : decode cX9_stop 47 = .ok (.bipush 34, 2) := by decide +kernel
theorem dX9_stop_49 : decode cX9_stop 49 = .ok (.iconst 1, 1) := by decide +kernel
theorem dX9_stop_50 : decode cX9_stop 50 = .ok (.invokevirtual 190, 3) := by decide +kernel
theorem dX9_stop_53 : decode cX9_stop 53 = .ok (.aload_n 0, 1) := by decide +kernel
theorem dX9_stop_54 : decode cX9_stop 54 = .ok (.iload_n 1, 1) := by decide +kernel
theorem dX9_stop_55 : decode cX9_stop 55 = .ok (.invokevirtual 275, 3) := by decide +kernel
theorem dX9_stop_58 : decode cX9_stop 58 = .ok (.aload_n 0, 1) := by decide +kernel
theorem dX9_stop_59 : decode cX9_stop 59 = .ok (.iload_n 1, 1) := by decide +kernel
theorem dX9_stop_60 : decode cX9_stop 60 = .ok (.invokevirtual 203, 3) := by decide +kernel
theorem dX9_stop_63 : decode cX9_stop 63 = .ok (.iload_n 2, 1) := by decide +kernel
theorem dX9_stop_64 : decode cX9_stop 64 = .ok (.ireturn, 1) := by decide +kernel
theorem dX9_breaks_0 : decode cX9_breaks 0 = .ok (.iload_n 1, 1) := by decide +kernel
theorem dX9_breaks_1 : decode cX9_breaks 1 = .ok (.invokestatic 88, 3) := by decide +kernel
theorem dX9_breaks_4 : decode cX9_breaks 4 = .ok (.ifCond .ne 5, 3) := by decide +kernel
theorem dX9_breaks_7 : decode cX9_breaks 7 = .ok (.iconst (-1), 1) := by decide +kernel
theorem dX9_breaks_8 : decode cX9_breaks 8 = .ok (.ireturn, 1) := by decide +kernel
theorem dX9_breaks_9 : decode cX9_breaks 9 = .ok (.iload_n 2, 1) := by decide +kernel
theorem dX9_breaks_10 : decode cX9_breaks 10 = .ok (.iconst 0, 1) := by decide +kernel
theorem dX9_breaks_11 : decode cX9_breaks 11 = .ok (.sipush 1000, 3) := by decide +kernel
theorem dX9_breaks_14 : decode cX9_breaks 14 = .ok (.invokestatic 92, 3) := by decide +kernel
theorem dX9_breaks_17 : decode cX9_breaks 17 = .ok (.ifCond .ne 6, 3) := by decide +kernel
theorem dX9_breaks_20 : decode cX9_breaks 20 = .ok (.bipush (-2), 2) := by decide +kernel
theorem dX9_breaks_22 : decode cX9_breaks 22 = .ok (.ireturn, 1) := by decide +kernel
theorem dX9_breaks_23 : decode cX9_breaks 23 = .ok (.aload_n 0, 1) := by decide +kernel
theorem dX9_breaks_24 : decode cX9_breaks 24 = .ok (.iload_n 1, 1) := by decide +kernel
theorem dX9_breaks_25 : decode cX9_breaks 25 = .ok (.invokevirtual 96, 3) := by decide +kernel
theorem dX9_breaks_28 : decode cX9_breaks 28 = .ok (.ifCond .ne 9, 3) := by decide +kernel
theorem dX9_breaks_31 : decode cX9_breaks 31 = .ok (.aload_n 0, 1) := by decide +kernel
theorem dX9_breaks_32 : decode cX9_breaks 32 = .ok (.iconst 1, 1) := by decide +kernel
theorem dX9_breaks_33 : decode cX9_breaks 33 = .ok (.invokevirtual 103, 3) := by decide +kernel
theorem dX9_breaks_36 : decode cX9_breaks 36 = .ok (.ireturn, 1) := by decide +kernel
theorem dX9_breaks_37 : decode cX9_breaks 37 = .ok (.aload_n 0, 1) := by decide +kernel
theorem dX9_breaks_38 : decode cX9_breaks 38 = .ok (.iload_n 1, 1) := by decide +kernel
theorem dX9_breaks_39 : decode cX9_breaks 39 = .ok (.bipush 7, 2) := by decide +kernel
theorem dX9_breaks_41 : decode cX9_breaks 41 = .ok (.iload_n 2, 1) := by decide +kernel
theorem dX9_breaks_42 : decode cX9_breaks 42 = .ok (.ifCond .ne 7, 3) := by decide +kernel
theorem dX9_breaks_45 : decode cX9_breaks 45 = .ok (.iconst 0, 1) := by decide +kernel
theorem dX9_breaks_46 : decode cX9_breaks 46 = .ok (.goto 12, 3) := by decide +kernel
theorem dX9_breaks_49 : decode cX9_breaks 49 = .ok (.aload_n 0, 1) := by decide +kernel
theorem dX9_breaks_50 : decode cX9_breaks 50 = .ok (.getfield 12, 3) := by decide +kernel
theorem dX9_breaks_53 : decode cX9_breaks 53 = .ok (.invokevirtual 290, 3) := by decide +kernel
theorem dX9_breaks_56 : decode cX9_breaks 56 = .ok (.iload_n 2, 1) := by decide +kernel
theorem dX9_breaks_57 : decode cX9_breaks 57 = .ok (.iadd, 1) := by decide +kernel
theorem dX9_breaks_58 : decode cX9_breaks 58 = .ok (.invokevirtual 99, 3) := by decide +kernel
theorem dX9_breaks_61 : decode cX9_breaks 61 = .ok (.iconst 1, 1) := by decide +kernel
theorem dX9_breaks_62 : decode cX9_breaks 62 = .ok (.ireturn, 1) := by decide +kernel
theorem dX9_mend_0 : decode cX9_mend 0 = .ok (.iload_n 1, 1) := by decide +kernel
theorem dX9_mend_1 : decode cX9_mend 1 = .ok (.invokestatic 88, 3) := by decide +kernel
theorem dX9_mend_4 : decode cX9_mend 4 = .ok (.ifCond .ne 5, 3) := by decide +kernel
theorem dX9_mend_7 : decode cX9_mend 7 = .ok (.iconst (-1), 1) := by decide +kernel
theorem dX9_mend_8 : decode cX9_mend 8 = .ok (.ireturn, 1) := by decide +kernel
theorem dX9_mend_9 : decode cX9_mend 9 = .ok (.aload_n 0, 1) := by decide +kernel
theorem dX9_mend_10 : decode cX9_mend 10 = .ok (.iload_n 1, 1) := by decide +kernel
theorem dX9_mend_11 : decode cX9_mend 11 = .ok (.invokevirtual 96, 3) := by decide +kernel
theorem dX9_mend_14 : decode cX9_mend 14 = .ok (.ifCond .ne 9, 3) := by decide +kernel
theorem dX9_mend_17 : decode cX9_mend 17 = .ok (.aload_n 0, 1) := by decide +kernel
theorem dX9_mend_18 : decode cX9_mend 18 = .ok (.iconst 1, 1) := by decide +kernel
theorem dX9_mend_19 : decode cX9_mend 19 = .ok (.invokevirtual 103, 3) := by decide +kernel
theorem dX9_mend_22 : decode cX9_mend 22 = .ok (.ireturn, 1) := by decide +kernel
theorem dX9_mend_23 : decode cX9_mend 23 = .ok (.aload_n 0, 1) := by decide +kernel
theorem dX9_mend_24 : decode cX9_mend 24 = .ok (.iload_n 1, 1) := by decide +kernel
theorem dX9_mend_25 : decode cX9_mend 25 = .ok (.invokevirtual 196, 3) := by decide +kernel
theorem dX9_mend_28 : decode cX9_mend 28 = .ok (.aload_n 0, 1) := by decide +kernel
theorem dX9_mend_29 : decode cX9_mend 29 = .ok (.iload_n 1, 1) := by decide +kernel
theorem dX9_mend_30 : decode cX9_mend 30 = .ok (.iconst 3, 1) := by decide +kernel
theorem dX9_mend_31 : decode cX9_mend 31 = .ok (.invokevirtual 110, 3) := by decide +kernel
theorem dX9_mend_34 : decode cX9_mend 34 = .ok (.iconst 4, 1) := by decide +kernel
theorem dX9_mend_35 : decode cX9_mend 35 = .ok (.if_icmp .ne 7, 3) := by decide +kernel
theorem dX9_mend_38 : decode cX9_mend 38 = .ok (.iconst 1, 1) := by decide +kernel
theorem dX9_mend_39 : decode cX9_mend 39 = .ok (.goto 4, 3) := by decide +kernel
theorem dX9_mend_42 : decode cX9_mend 42 = .ok (.iconst 0, 1) := by decide +kernel
theorem dX9_mend_43 : decode cX9_mend 43 = .ok (.istore_n 2, 1) := by decide +kernel
theorem dX9_mend_44 : decode cX9_mend 44 = .ok (.iload_n 2, 1) := by decide +kernel
theorem dX9_mend_45 : decode cX9_mend 45 = .ok (.ifCond .eq 10, 3) := by decide +kernel
theorem dX9_mend_48 : decode cX9_mend 48 = .ok (.aload_n 0, 1) := by decide +kernel
theorem dX9_mend_49 : decode cX9_mend 49 = .ok (.iload_n 1, 1) := by decide +kernel
theorem dX9_mend_50 : decode cX9_mend 50 = .ok (.iconst 3, 1) := by decide +kernel
theorem dX9_mend_51 : decode cX9_mend 51 = .ok (.iconst 1, 1) := by decide +kernel
theorem dX9_mend_52 : decode cX9_mend 52 = .ok (.invokevirtual 99, 3) := by decide +kernel
theorem dX9_mend_55 : decode cX9_mend 55 = .ok (.aload_n 0, 1) := by decide +kernel
theorem dX9_mend_56 : decode cX9_mend 56 = .ok (.iload_n 1, 1) := by decide +kernel
theorem dX9_mend_57 : decode cX9_mend 57 = .ok (.invokevirtual 203, 3) := by decide +kernel
theorem dX9_mend_60 : decode cX9_mend 60 = .ok (.iload_n 2, 1) := by decide +kernel
theorem dX9_mend_61 : decode cX9_mend 61 = .ok (.ifCond .eq 7, 3) := by decide +kernel
theorem dX9_mend_64 : decode cX9_mend 64 = .ok (.iconst 1, 1) := by decide +kernel
theorem dX9_mend_65 : decode cX9_mend 65 = .ok (.goto 4, 3) := by decide +kernel
theorem dX9_mend_68 : decode cX9_mend 68 = .ok (.iconst 0, 1) := by decide +kernel
theorem dX9_mend_69 : decode cX9_mend 69 = .ok (.ireturn, 1) := by decide +kernel
theorem dX9_bound_0 : decode cX9_bound 0 = .ok (.iload_n 1, 1) := by decide +kernel
theorem dX9_bound_1 : decode cX9_bound 1 = .ok (.iconst 0, 1) := by decide +kernel
theorem dX9_bound_2 : decode cX9_bound 2 = .ok (.sipush 10000, 3) := by decide +kernel
theorem dX9_bound_5 : decode cX9_bound 5 = .ok (.invokestatic 92, 3) := by decide +kernel
theorem dX9_bound_8 : decode cX9_bound 8 = .ok (.ifCond .eq 25, 3) := by decide +kernel
theorem dX9_bound_11 : decode cX9_bound 11 = .ok (.iload_n 2, 1) := by decide +kernel
theorem dX9_bound_12 : decode cX9_bound 12 = .ok (.iconst 0, 1) := by decide +kernel
theorem dX9_bound_13 : decode cX9_bound 13 = .ok (.sipush 10000, 3) := by decide +kernel
theorem dX9_bound_16 : decode cX9_bound 16 = .ok (.invokestatic 92, 3) := by decide +kernel
theorem dX9_bound_19 : decode cX9_bound 19 = .ok (.ifCond .eq 14, 3) := by decide +kernel
theorem dX9_bound_22 : decode cX9_bound 22 = .ok (.iload_n 3, 1) := by decide +kernel
theorem dX9_bound_23 : decode cX9_bound 23 = .ok (.iconst 0, 1) := by decide +kernel
theorem dX9_bound_24 : decode cX9_bound 24 = .ok (.sipush 10000, 3) := by decide +kernel
theorem dX9_bound_27 : decode cX9_bound 27 = .ok (.invokestatic 92, 3) := by decide +kernel
theorem dX9_bound_30 : decode cX9_bound 30 = .ok (.ifCond .ne 6, 3) := by decide +kernel
theorem dX9_bound_33 : decode cX9_bound 33 = .ok (.bipush (-2), 2) := by decide +kernel
theorem dX9_bound_35 : decode cX9_bound 35 = .ok (.ireturn, 1) := by decide +kernel
theorem dX9_bound_36 : decode cX9_bound 36 = .ok (.aload_n 0, 1) := by decide +kernel
theorem dX9_bound_37 : decode cX9_bound 37 = .ok (.getfield 12, 3) := by decide +kernel
theorem dX9_bound_40 : decode cX9_bound 40 = .ok (.sipush 8551, 3) := by decide +kernel
theorem dX9_bound_43 : decode cX9_bound 43 = .ok (.invokevirtual 175, 3) := by decide +kernel
theorem dX9_bound_46 : decode cX9_bound 46 = .ok (.iconst 1, 1) := by decide +kernel
theorem dX9_bound_47 : decode cX9_bound 47 = .ok (.if_icmp .ne 6, 3) := by decide +kernel
theorem dX9_bound_50 : decode cX9_bound 50 = .ok (.bipush (-3), 2) := by decide +kernel
theorem dX9_bound_52 : decode cX9_bound 52 = .ok (.ireturn, 1) := by decide +kernel
theorem dX9_bound_53 : decode cX9_bound 53 = .ok (.aload_n 0, 1) := by decide +kernel
theorem dX9_bound_54 : decode cX9_bound 54 = .ok (.getfield 12, 3) := by decide +kernel
theorem dX9_bound_57 : decode cX9_bound 57 = .ok (.sipush 8544, 3) := by decide +kernel
theorem dX9_bound_60 : decode cX9_bound 60 = .ok (.iload_n 1, 1) := by decide +kernel
theorem dX9_bound_61 : decode cX9_bound 61 = .ok (.invokevirtual 84, 3) := by decide +kernel
theorem dX9_bound_64 : decode cX9_bound 64 = .ok (.aload_n 0, 1) := by decide +kernel
theorem dX9_bound_65 : decode cX9_bound 65 = .ok (.getfield 12, 3) := by decide +kernel
theorem dX9_bound_68 : decode cX9_bound 68 = .ok (.sipush 8545, 3) := by decide +kernel
theorem dX9_bound_71 : decode cX9_bound 71 = .ok (.iload_n 2, 1) := by decide +kernel
theorem dX9_bound_72 : decode cX9_bound 72 = .ok (.invokevirtual 84, 3) := by decide +kernel
theorem dX9_bound_75 : decode cX9_bound 75 = .ok (.aload_n 0, 1) := by decide +kernel
theorem dX9_bound_76 : decode cX9_bound 76 = .ok (.getfield 12, 3) := by decide +kernel
theorem dX9_bound_79 : decode cX9_bound 79 = .ok (.sipush 8546, 3) := by decide +kernel
theorem dX9_bound_82 : decode cX9_bound 82 = .ok (.iload_n 3, 1) := by decide +kernel
theorem dX9_bound_83 : decode cX9_bound 83 = .ok (.invokevirtual 84, 3) := by decide +kernel
theorem dX9_bound_86 : decode cX9_bound 86 = .ok (.iconst 1, 1) := by decide +kernel
theorem dX9_bound_87 : decode cX9_bound 87 = .ok (.ireturn, 1) := by decide +kernel
theorem dX9_used_0 : decode cX9_used 0 = .ok (.iload_n 1, 1) := by decide +kernel
theorem dX9_used_1 : decode cX9_used 1 = .ok (.iconst 0, 1) := by decide +kernel
theorem dX9_used_2 : decode cX9_used 2 = .ok (.iconst 5, 1) := by decide +kernel
theorem dX9_used_3 : decode cX9_used 3 = .ok (.invokestatic 92, 3) := by decide +kernel
theorem dX9_used_6 : decode cX9_used 6 = .ok (.ifCond .ne 6, 3) := by decide +kernel
theorem dX9_used_9 : decode cX9_used 9 = .ok (.bipush (-2), 2) := by decide +kernel
theorem dX9_used_11 : decode cX9_used 11 = .ok (.ireturn, 1) := by decide +kernel
theorem dX9_used_12 : decode cX9_used 12 = .ok (.aload_n 0, 1) := by decide +kernel
theorem dX9_used_13 : decode cX9_used 13 = .ok (.getfield 12, 3) := by decide +kernel
theorem dX9_used_16 : decode cX9_used 16 = .ok (.iload_n 1, 1) := by decide +kernel
theorem dX9_used_17 : decode cX9_used 17 = .ok (.iconst 2, 1) := by decide +kernel
theorem dX9_used_18 : decode cX9_used 18 = .ok (.if_icmp .gt 11, 3) := by decide +kernel
theorem dX9_used_21 : decode cX9_used 21 = .ok (.sipush 8547, 3) := by decide +kernel
theorem dX9_used_24 : decode cX9_used 24 = .ok (.iload_n 1, 1) := by decide +kernel
theorem dX9_used_25 : decode cX9_used 25 = .ok (.iadd, 1) := by decide +kernel
theorem dX9_used_26 : decode cX9_used 26 = .ok (.goto 10, 3) := by decide +kernel
theorem dX9_used_29 : decode cX9_used 29 = .ok (.sipush 8544, 3) := by decide +kernel
theorem dX9_used_32 : decode cX9_used 32 = .ok (.iload_n 1, 1) := by decide +kernel
theorem dX9_used_33 : decode cX9_used 33 = .ok (.iadd, 1) := by decide +kernel
theorem dX9_used_34 : decode cX9_used 34 = .ok (.iconst 3, 1) := by decide +kernel
theorem dX9_used_35 : decode cX9_used 35 = .ok (.isub, 1) := by decide +kernel
theorem dX9_used_36 : decode cX9_used 36 = .ok (.invokevirtual 175, 3) := by decide +kernel
theorem dX9_used_39 : decode cX9_used 39 = .ok (.ireturn, 1) := by decide +kernel
theorem dX9_book_0 : decode cX9_book 0 = .ok (.iload_n 1, 1) := by decide +kernel
theorem dX9_book_1 : decode cX9_book 1 = .ok (.invokestatic 88, 3) := by decide +kernel
theorem dX9_book_4 : decode cX9_book 4 = .ok (.ifCond .ne 5, 3) := by decide +kernel
theorem dX9_book_7 : decode cX9_book 7 = .ok (.iconst (-1), 1) := by decide +kernel
theorem dX9_book_8 : decode cX9_book 8 = .ok (.ireturn, 1) := by decide +kernel
theorem dX9_book_9 : decode cX9_book 9 = .ok (.iload_n 2, 1) := by decide +kernel
theorem dX9_book_10 : decode cX9_book 10 = .ok (.iconst 0, 1) := by decide +kernel
theorem dX9_book_11 : decode cX9_book 11 = .ok (.bipush 8, 2) := by decide +kernel
theorem dX9_book_13 : decode cX9_book 13 = .ok (.invokestatic 92, 3) := by decide +kernel
theorem dX9_book_16 : decode cX9_book 16 = .ok (.ifCond .ne 6, 3) := by decide +kernel
theorem dX9_book_19 : decode cX9_book 19 = .ok (.bipush (-2), 2) := by decide +kernel
theorem dX9_book_21 : decode cX9_book 21 = .ok (.ireturn, 1) := by decide +kernel
theorem dX9_book_22 : decode cX9_book 22 = .ok (.aload_n 0, 1) := by decide +kernel
theorem dX9_book_23 : decode cX9_book 23 = .ok (.iload_n 1, 1) := by decide +kernel
theorem dX9_book_24 : decode cX9_book 24 = .ok (.invokevirtual 96, 3) := by decide +kernel
theorem dX9_book_27 : decode cX9_book 27 = .ok (.ifCond .eq 15, 3) := by decide +kernel
theorem dX9_book_30 : decode cX9_book 30 = .ok (.aload_n 0, 1) := by decide +kernel
theorem dX9_book_31 : decode cX9_book 31 = .ok (.iload_n 1, 1) := by decide +kernel
theorem dX9_book_32 : decode cX9_book 32 = .ok (.bipush 27, 2) := by decide +kernel
theorem dX9_book_34 : decode cX9_book 34 = .ok (.iload_n 2, 1) := by decide +kernel
theorem dX9_book_35 : decode cX9_book 35 = .ok (.iadd, 1) := by decide +kernel
theorem dX9_book_36 : decode cX9_book 36 = .ok (.invokevirtual 110, 3) := by decide +kernel
theorem dX9_book_39 : decode cX9_book 39 = .ok (.goto 8, 3) := by decide +kernel
theorem dX9_book_42 : decode cX9_book 42 = .ok (.aload_n 0, 1) := by decide +kernel
theorem dX9_book_43 : decode cX9_book 43 = .ok (.iconst 1, 1) := by decide +kernel
theorem dX9_book_44 : decode cX9_book 44 = .ok (.invokevirtual 103, 3) := by decide +kernel
theorem dX9_book_47 : decode cX9_book 47 = .ok (.ireturn, 1) := by decide +kernel
theorem dX9_cost_0 : decode cX9_cost 0 = .ok (.iload_n 1, 1) := by decide +kernel
theorem dX9_cost_1 : decode cX9_cost 1 = .ok (.invokestatic 88, 3) := by decide +kernel
theorem dX9_cost_4 : decode cX9_cost 4 = .ok (.ifCond .ne 5, 3) := by decide +kernel
theorem dX9_cost_7 : decode cX9_cost 7 = .ok (.iconst (-1), 1) := by decide +kernel
theorem dX9_cost_8 : decode cX9_cost 8 = .ok (.ireturn, 1) := by decide +kernel
theorem dX9_cost_9 : decode cX9_cost 9 = .ok (.iload_n 2, 1) := by decide +kernel
theorem dX9_cost_10 : decode cX9_cost 10 = .ok (.iconst 0, 1) := by decide +kernel
theorem dX9_cost_11 : decode cX9_cost 11 = .ok (.ldc_w 308, 3) := by decide +kernel
theorem dX9_cost_14 : decode cX9_cost 14 = .ok (.invokestatic 92, 3) := by decide +kernel
theorem dX9_cost_17 : decode cX9_cost 17 = .ok (.ifCond .ne 6, 3) := by decide +kernel
theorem dX9_cost_20 : decode cX9_cost 20 = .ok (.bipush (-2), 2) := by decide +kernel
theorem dX9_cost_22 : decode cX9_cost 22 = .ok (.ireturn, 1) := by decide +kernel
theorem dX9_cost_23 : decode cX9_cost 23 = .ok (.iconst 0, 1) := by decide +kernel
theorem dX9_cost_24 : decode cX9_cost 24 = .ok (.istore_n 3, 1) := by decide +kernel
theorem dX9_cost_25 : decode cX9_cost 25 = .ok (.iconst 0, 1) := by decide +kernel
theorem dX9_cost_26 : decode cX9_cost 26 = .ok (.istore 4, 2) := by decide +kernel
theorem dX9_cost_28 : decode cX9_cost 28 = .ok (.iload 4, 2) := by decide +kernel
theorem dX9_cost_30 : decode cX9_cost 30 = .ok (.bipush 60, 2) := by decide +kernel
theorem dX9_cost_32 : decode cX9_cost 32 = .ok (.if_icmp .ge 34, 3) := by decide +kernel
theorem dX9_cost_35 : decode cX9_cost 35 = .ok (.aload_n 0, 1) := by decide +kernel
theorem dX9_cost_36 : decode cX9_cost 36 = .ok (.getfield 65, 3) := by decide +kernel
theorem dX9_cost_39 : decode cX9_cost 39 = .ok (.iload 4, 2) := by decide +kernel
theorem dX9_cost_41 : decode cX9_cost 41 = .ok (.aload_n 0, 1) := by decide +kernel
theorem dX9_cost_42 : decode cX9_cost 42 = .ok (.iload 4, 2) := by decide +kernel
theorem dX9_cost_44 : decode cX9_cost 44 = .ok (.bipush 27, 2) := by decide +kernel
theorem dX9_cost_46 : decode cX9_cost 46 = .ok (.invokevirtual 110, 3) := by decide +kernel
theorem dX9_cost_49 : decode cX9_cost 49 = .ok (.iastore, 1) := by decide +kernel
theorem dX9_cost_50 : decode cX9_cost 50 = .ok (.iload_n 3, 1) := by decide +kernel
theorem dX9_cost_51 : decode cX9_cost 51 = .ok (.aload_n 0, 1) := by decide +kernel
theorem dX9_cost_52 : decode cX9_cost 52 = .ok (.getfield 65, 3) := by decide +kernel
theorem dX9_cost_55 : decode cX9_cost 55 = .ok (.iload 4, 2) := by decide +kernel
theorem dX9_cost_57 : decode cX9_cost 57 = .ok (.iaload, 1) := by decide +kernel
theorem dX9_cost_58 : decode cX9_cost 58 = .ok (.iadd, 1) := by decide +kernel
theorem dX9_cost_59 : decode cX9_cost 59 = .ok (.istore_n 3, 1) := by decide +kernel
theorem dX9_cost_60 : decode cX9_cost 60 = .ok (.iinc 4 1, 3) := by decide +kernel
theorem dX9_cost_63 : decode cX9_cost 63 = .ok (.goto (-35), 3) := by decide +kernel
theorem dX9_cost_66 : decode cX9_cost 66 = .ok (.iload_n 3, 1) := by decide +kernel
theorem dX9_cost_67 : decode cX9_cost 67 = .ok (.ifCond .ne 12, 3) := by decide +kernel
theorem dX9_cost_70 : decode cX9_cost 70 = .ok (.aload_n 0, 1) := by decide +kernel
theorem dX9_cost_71 : decode cX9_cost 71 = .ok (.bipush 6, 2) := by decide +kernel
theorem dX9_cost_73 : decode cX9_cost 73 = .ok (.invokevirtual 103, 3) := by decide +kernel
theorem dX9_cost_76 : decode cX9_cost 76 = .ok (.goto 9, 3) := by decide +kernel
theorem dX9_cost_79 : decode cX9_cost 79 = .ok (.aload_n 0, 1) := by decide +kernel
theorem dX9_cost_80 : decode cX9_cost 80 = .ok (.iload_n 2, 1) := by decide +kernel
theorem dX9_cost_81 : decode cX9_cost 81 = .ok (.iload_n 1, 1) := by decide +kernel
theorem dX9_cost_82 : decode cX9_cost 82 = .ok (.invokevirtual 254, 3) := by decide +kernel
theorem dX9_cost_85 : decode cX9_cost 85 = .ok (.ireturn, 1) := by decide +kernel
theorem dX9_count_0 : decode cX9_count 0 = .ok (.iload_n 1, 1) := by decide +kernel
theorem dX9_count_1 : decode cX9_count 1 = .ok (.tableswitch 171 0 12 #[67, 75, 80, 85, 96, 101, 106, 114, 125, 136, 147, 158, 166], 67) := by decide +kernel
theorem dX9_count_68 : decode cX9_count 68 = .ok (.aload_n 0, 1) := by decide +kernel
theorem dX9_count_69 : decode cX9_count 69 = .ok (.getfield 12, 3) := by decide +kernel
theorem dX9_count_72 : decode cX9_count 72 = .ok (.invokevirtual 290, 3) := by decide +kernel
theorem dX9_count_75 : decode cX9_count 75 = .ok (.ireturn, 1) := by decide +kernel
theorem dX9_count_76 : decode cX9_count 76 = .ok (.aload_n 0, 1) := by decide +kernel
theorem dX9_count_77 : decode cX9_count 77 = .ok (.invokevirtual 309, 3) := by decide +kernel
theorem dX9_count_80 : decode cX9_count 80 = .ok (.ireturn, 1) := by decide +kernel
theorem dX9_count_81 : decode cX9_count 81 = .ok (.aload_n 0, 1) := by decide +kernel
theorem dX9_count_82 : decode cX9_count 82 = .ok (.invokevirtual 312, 3) := by decide +kernel
theorem dX9_count_85 : decode cX9_count 85 = .ok (.ireturn, 1) := by decide +kernel
theorem dX9_count_86 : decode cX9_count 86 = .ok (.aload_n 0, 1) := by decide +kernel
theorem dX9_count_87 : decode cX9_count 87 = .ok (.getfield 12, 3) := by decide +kernel
theorem dX9_count_90 : decode cX9_count 90 = .ok (.sipush 8550, 3) := by decide +kernel
theorem dX9_count_93 : decode cX9_count 93 = .ok (.invokevirtual 175, 3) := by decide +kernel
theorem dX9_count_96 : decode cX9_count 96 = .ok (.ireturn, 1) := by decide +kernel
theorem dX9_count_97 : decode cX9_count 97 = .ok (.aload_n 0, 1) := by decide +kernel
theorem dX9_count_98 : decode cX9_count 98 = .ok (.getfield 74, 3) := by decide +kernel
theorem dX9_count_101 : decode cX9_count 101 = .ok (.ireturn, 1) := by decide +kernel
theorem dX9_count_102 : decode cX9_count 102 = .ok (.aload_n 0, 1) := by decide +kernel
theorem dX9_count_103 : decode cX9_count 103 = .ok (.invokevirtual 315, 3) := by decide +kernel
theorem dX9_count_106 : decode cX9_count 106 = .ok (.ireturn, 1) := by decide +kernel
theorem dX9_count_107 : decode cX9_count 107 = .ok (.aload_n 0, 1) := by decide +kernel
theorem dX9_count_108 : decode cX9_count 108 = .ok (.getfield 21, 3) := by decide +kernel
theorem dX9_count_111 : decode cX9_count 111 = .ok (.invokevirtual 318, 3) := by decide +kernel
theorem dX9_count_114 : decode cX9_count 114 = .ok (.ireturn, 1) := by decide +kernel
theorem dX9_count_115 : decode cX9_count 115 = .ok (.aload_n 0, 1) := by decide +kernel
theorem dX9_count_116 : decode cX9_count 116 = .ok (.getfield 12, 3) := by decide +kernel
theorem dX9_count_119 : decode cX9_count 119 = .ok (.sipush 8552, 3) := by decide +kernel
theorem dX9_count_122 : decode cX9_count 122 = .ok (.invokevirtual 175, 3) := by decide +kernel
theorem dX9_count_125 : decode cX9_count 125 = .ok (.ireturn, 1) := by decide +kernel
theorem dX9_count_126 : decode cX9_count 126 = .ok (.aload_n 0, 1) := by decide +kernel
theorem dX9_count_127 : decode cX9_count 127 = .ok (.getfield 12, 3) := by decide +kernel
theorem dX9_count_130 : decode cX9_count 130 = .ok (.sipush 8553, 3) := by decide +kernel
theorem dX9_count_133 : decode cX9_count 133 = .ok (.invokevirtual 175, 3) := by decide +kernel
theorem dX9_count_136 : decode cX9_count 136 = .ok (.ireturn, 1) := by decide +kernel
theorem dX9_count_137 : decode cX9_count 137 = .ok (.aload_n 0, 1) := by decide +kernel
theorem dX9_count_138 : decode cX9_count 138 = .ok (.getfield 12, 3) := by decide +kernel
theorem dX9_count_141 : decode cX9_count 141 = .ok (.sipush 8554, 3) := by decide +kernel
theorem dX9_count_144 : decode cX9_count 144 = .ok (.invokevirtual 175, 3) := by decide +kernel
theorem dX9_count_147 : decode cX9_count 147 = .ok (.ireturn, 1) := by decide +kernel
theorem dX9_count_148 : decode cX9_count 148 = .ok (.aload_n 0, 1) := by decide +kernel
theorem dX9_count_149 : decode cX9_count 149 = .ok (.getfield 12, 3) := by decide +kernel
theorem dX9_count_152 : decode cX9_count 152 = .ok (.sipush 8555, 3) := by decide +kernel
theorem dX9_count_155 : decode cX9_count 155 = .ok (.invokevirtual 175, 3) := by decide +kernel
theorem dX9_count_158 : decode cX9_count 158 = .ok (.ireturn, 1) := by decide +kernel
theorem dX9_count_159 : decode cX9_count 159 = .ok (.aload_n 0, 1) := by decide +kernel
theorem dX9_count_160 : decode cX9_count 160 = .ok (.getfield 12, 3) := by decide +kernel
theorem dX9_count_163 : decode cX9_count 163 = .ok (.invokevirtual 321, 3) := by decide +kernel
theorem dX9_count_166 : decode cX9_count 166 = .ok (.ireturn, 1) := by decide +kernel
theorem dX9_count_167 : decode cX9_count 167 = .ok (.aload_n 0, 1) := by decide +kernel
theorem dX9_count_168 : decode cX9_count 168 = .ok (.getfield 78, 3) := by decide +kernel
theorem dX9_count_171 : decode cX9_count 171 = .ok (.ireturn, 1) := by decide +kernel
theorem dX9_count_172 : decode cX9_count 172 = .ok (.bipush (-2), 2) := by decide +kernel
theorem dX9_count_174 : decode cX9_count 174 = .ok (.ireturn, 1) := by decide +kernel
theorem dX9_back_0 : decode cX9_back 0 = .ok (.iload_n 1, 1) := by decide +kernel
theorem dX9_back_1 : decode cX9_back 1 = .ok (.iconst 1, 1) := by decide +kernel
theorem dX9_back_2 : decode cX9_back 2 = .ok (.sipush 300, 3) := by decide +kernel
theorem dX9_back_5 : decode cX9_back 5 = .ok (.invokestatic 92, 3) := by decide +kernel
theorem dX9_back_8 : decode cX9_back 8 = .ok (.ifCond .ne 6, 3) := by decide +kernel
theorem dX9_back_11 : decode cX9_back 11 = .ok (.bipush (-2), 2) := by decide +kernel
theorem dX9_back_13 : decode cX9_back 13 = .ok (.ireturn, 1) := by decide +kernel
theorem dX9_back_14 : decode cX9_back 14 = .ok (.iload_n 1, 1) := by decide +kernel
theorem dX9_back_15 : decode cX9_back 15 = .ok (.aload_n 0, 1) := by decide +kernel
theorem dX9_back_16 : decode cX9_back 16 = .ok (.getfield 12, 3) := by decide +kernel
theorem dX9_back_19 : decode cX9_back 19 = .ok (.invokevirtual 321, 3) := by decide +kernel
theorem dX9_back_22 : decode cX9_back 22 = .ok (.if_icmp .le 6, 3) := by decide +kernel
theorem dX9_back_25 : decode cX9_back 25 = .ok (.bipush (-3), 2) := by decide +kernel
theorem dX9_back_27 : decode cX9_back 27 = .ok (.ireturn, 1) := by decide +kernel
theorem dX9_back_28 : decode cX9_back 28 = .ok (.aload_n 0, 1) := by decide +kernel
theorem dX9_back_29 : decode cX9_back 29 = .ok (.getfield 12, 3) := by decide +kernel
theorem dX9_back_32 : decode cX9_back 32 = .ok (.iload_n 1, 1) := by decide +kernel
theorem dX9_back_33 : decode cX9_back 33 = .ok (.invokevirtual 324, 3) := by decide +kernel
theorem dX9_back_36 : decode cX9_back 36 = .ok (.aload_n 0, 1) := by decide +kernel
theorem dX9_back_37 : decode cX9_back 37 = .ok (.getfield 12, 3) := by decide +kernel
theorem dX9_back_40 : decode cX9_back 40 = .ok (.invokevirtual 290, 3) := by decide +kernel
theorem dX9_back_43 : decode cX9_back 43 = .ok (.ireturn, 1) := by decide +kernel
theorem dX9_digest_0 : decode cX9_digest 0 = .ok (.ldc2_w 327, 3) := by decide +kernel
theorem dX9_digest_3 : decode cX9_digest 3 = .ok (.lstore_n 1, 1) := by decide +kernel
theorem dX9_digest_4 : decode cX9_digest 4 = .ok (.lload_n 1, 1) := by decide +kernel
theorem dX9_digest_5 : decode cX9_digest 5 = .ok (.ldc2_w 329, 3) := by decide +kernel
theorem dX9_digest_8 : decode cX9_digest 8 = .ok (.lmul, 1) := by decide +kernel
theorem dX9_digest_9 : decode cX9_digest 9 = .ok (.aload_n 0, 1) := by decide +kernel
theorem dX9_digest_10 : decode cX9_digest 10 = .ok (.getfield 12, 3) := by decide +kernel
theorem dX9_digest_13 : decode cX9_digest 13 = .ok (.invokevirtual 290, 3) := by decide +kernel
theorem dX9_digest_16 : decode cX9_digest 16 = .ok (.i2l, 1) := by decide +kernel
theorem dX9_digest_17 : decode cX9_digest 17 = .ok (.ladd, 1) := by decide +kernel
theorem dX9_digest_18 : decode cX9_digest 18 = .ok (.lstore_n 1, 1) := by decide +kernel
theorem dX9_digest_19 : decode cX9_digest 19 = .ok (.iconst 0, 1) := by decide +kernel
theorem dX9_digest_20 : decode cX9_digest 20 = .ok (.istore_n 3, 1) := by decide +kernel
theorem dX9_digest_21 : decode cX9_digest 21 = .ok (.iload_n 3, 1) := by decide +kernel
theorem dX9_digest_22 : decode cX9_digest 22 = .ok (.bipush 60, 2) := by decide +kernel
theorem dX9_digest_24 : decode cX9_digest 24 = .ok (.if_icmp .ge 105, 3) := by decide +kernel
theorem dX9_digest_27 : decode cX9_digest 27 = .ok (.lload_n 1, 1) := by decide +kernel
theorem dX9_digest_28 : decode cX9_digest 28 = .ok (.ldc2_w 329, 3) := by decide +kernel
theorem dX9_digest_31 : decode cX9_digest 31 = .ok (.lmul, 1) := by decide +kernel
theorem dX9_digest_32 : decode cX9_digest 32 = .ok (.aload_n 0, 1) := by decide +kernel
theorem dX9_digest_33 : decode cX9_digest 33 = .ok (.iload_n 3, 1) := by decide +kernel
theorem dX9_digest_34 : decode cX9_digest 34 = .ok (.iconst 0, 1) := by decide +kernel
theorem dX9_digest_35 : decode cX9_digest 35 = .ok (.invokevirtual 110, 3) := by decide +kernel
theorem dX9_digest_38 : decode cX9_digest 38 = .ok (.iconst 1, 1) := by decide +kernel
theorem dX9_digest_39 : decode cX9_digest 39 = .ok (.isub, 1) := by decide +kernel
theorem dX9_digest_40 : decode cX9_digest 40 = .ok (.i2l, 1) := by decide +kernel
theorem dX9_digest_41 : decode cX9_digest 41 = .ok (.ladd, 1) := by decide +kernel
theorem dX9_digest_42 : decode cX9_digest 42 = .ok (.lstore_n 1, 1) := by decide +kernel
theorem dX9_digest_43 : decode cX9_digest 43 = .ok (.aload_n 0, 1) := by decide +kernel
theorem dX9_digest_44 : decode cX9_digest 44 = .ok (.iload_n 3, 1) := by decide +kernel
theorem dX9_digest_45 : decode cX9_digest 45 = .ok (.invokevirtual 96, 3) := by decide +kernel
theorem dX9_digest_48 : decode cX9_digest 48 = .ok (.ifCond .eq 75, 3) := by decide +kernel
theorem dX9_digest_51 : decode cX9_digest 51 = .ok (.lload_n 1, 1) := by decide +kernel
theorem dX9_digest_52 : decode cX9_digest 52 = .ok (.ldc2_w 329, 3) := by decide +kernel
theorem dX9_digest_55 : decode cX9_digest 55 = .ok (.lmul, 1) := by decide +kernel
theorem dX9_digest_56 : decode cX9_digest 56 = .ok (.aload_n 0, 1) := by decide +kernel
theorem dX9_digest_57 : decode cX9_digest 57 = .ok (.iload_n 3, 1) := by decide +kernel
theorem dX9_digest_58 : decode cX9_digest 58 = .ok (.iconst 4, 1) := by decide +kernel
theorem dX9_digest_59 : decode cX9_digest 59 = .ok (.invokevirtual 110, 3) := by decide +kernel
theorem dX9_digest_62 : decode cX9_digest 62 = .ok (.i2l, 1) := by decide +kernel
theorem dX9_digest_63 : decode cX9_digest 63 = .ok (.ladd, 1) := by decide +kernel
theorem dX9_digest_64 : decode cX9_digest 64 = .ok (.lstore_n 1, 1) := by decide +kernel
theorem dX9_digest_65 : decode cX9_digest 65 = .ok (.lload_n 1, 1) := by decide +kernel
theorem dX9_digest_66 : decode cX9_digest 66 = .ok (.ldc2_w 329, 3) := by decide +kernel
theorem dX9_digest_69 : decode cX9_digest 69 = .ok (.lmul, 1) := by decide +kernel
theorem dX9_digest_70 : decode cX9_digest 70 = .ok (.aload_n 0, 1) := by decide +kernel
theorem dX9_digest_71 : decode cX9_digest 71 = .ok (.iload_n 3, 1) := by decide +kernel
theorem dX9_digest_72 : decode cX9_digest 72 = .ok (.iconst 3, 1) := by decide +kernel
theorem dX9_digest_73 : decode cX9_digest 73 = .ok (.invokevirtual 110, 3) := by decide +kernel
theorem dX9_digest_76 : decode cX9_digest 76 = .ok (.i2l, 1) := by decide +kernel
theorem dX9_digest_77 : decode cX9_digest 77 = .ok (.ladd, 1) := by decide +kernel
theorem dX9_digest_78 : decode cX9_digest 78 = .ok (.lstore_n 1, 1) := by decide +kernel
theorem dX9_digest_79 : decode cX9_digest 79 = .ok (.lload_n 1, 1) := by decide +kernel
theorem dX9_digest_80 : decode cX9_digest 80 = .ok (.ldc2_w 329, 3) := by decide +kernel
theorem dX9_digest_83 : decode cX9_digest 83 = .ok (.lmul, 1) := by decide +kernel
theorem dX9_digest_84 : decode cX9_digest 84 = .ok (.aload_n 0, 1) := by decide +kernel
theorem dX9_digest_85 : decode cX9_digest 85 = .ok (.iload_n 3, 1) := by decide +kernel
theorem dX9_digest_86 : decode cX9_digest 86 = .ok (.invokevirtual 305, 3) := by decide +kernel
theorem dX9_digest_89 : decode cX9_digest 89 = .ok (.i2l, 1) := by decide +kernel
theorem dX9_digest_90 : decode cX9_digest 90 = .ok (.ladd, 1) := by decide +kernel
theorem dX9_digest_91 : decode cX9_digest 91 = .ok (.lstore_n 1, 1) := by decide +kernel
theorem dX9_digest_92 : decode cX9_digest 92 = .ok (.lload_n 1, 1) := by decide +kernel
theorem dX9_digest_93 : decode cX9_digest 93 = .ok (.ldc2_w 329, 3) := by decide +kernel
theorem dX9_digest_96 : decode cX9_digest 96 = .ok (.lmul, 1) := by decide +kernel
theorem dX9_digest_97 : decode cX9_digest 97 = .ok (.aload_n 0, 1) := by decide +kernel
theorem dX9_digest_98 : decode cX9_digest 98 = .ok (.iload_n 3, 1) := by decide +kernel
theorem dX9_digest_99 : decode cX9_digest 99 = .ok (.bipush 9, 2) := by decide +kernel
theorem dX9_digest_101 : decode cX9_digest 101 = .ok (.invokevirtual 110, 3) := by decide +kernel
theorem dX9_digest_104 : decode cX9_digest 104 = .ok (.i2l, 1) := by decide +kernel
theorem dX9_digest_105 : decode cX9_digest 105 = .ok (.ladd, 1) := by decide +kernel
theorem dX9_digest_106 : decode cX9_digest 106 = .ok (.lstore_n 1, 1) := by decide +kernel
theorem dX9_digest_107 : decode cX9_digest 107 = .ok (.lload_n 1, 1) := by decide +kernel
theorem dX9_digest_108 : decode cX9_digest 108 = .ok (.ldc2_w 329, 3) := by decide +kernel
theorem dX9_digest_111 : decode cX9_digest 111 = .ok (.lmul, 1) := by decide +kernel
theorem dX9_digest_112 : decode cX9_digest 112 = .ok (.aload_n 0, 1) := by decide +kernel
theorem dX9_digest_113 : decode cX9_digest 113 = .ok (.getfield 21, 3) := by decide +kernel
theorem dX9_digest_116 : decode cX9_digest 116 = .ok (.iload_n 3, 1) := by decide +kernel
theorem dX9_digest_117 : decode cX9_digest 117 = .ok (.invokevirtual 117, 3) := by decide +kernel
theorem dX9_digest_120 : decode cX9_digest 120 = .ok (.i2l, 1) := by decide +kernel
theorem dX9_digest_121 : decode cX9_digest 121 = .ok (.ladd, 1) := by decide +kernel
theorem dX9_digest_122 : decode cX9_digest 122 = .ok (.lstore_n 1, 1) := by decide +kernel
theorem dX9_digest_123 : decode cX9_digest 123 = .ok (.iinc 3 1, 3) := by decide +kernel
theorem dX9_digest_126 : decode cX9_digest 126 = .ok (.goto (-105), 3) := by decide +kernel
theorem dX9_digest_129 : decode cX9_digest 129 = .ok (.iconst 0, 1) := by decide +kernel
theorem dX9_digest_130 : decode cX9_digest 130 = .ok (.istore_n 3, 1) := by decide +kernel
theorem dX9_digest_131 : decode cX9_digest 131 = .ok (.iload_n 3, 1) := by decide +kernel
theorem dX9_digest_132 : decode cX9_digest 132 = .ok (.bipush 12, 2) := by decide +kernel
theorem dX9_digest_134 : decode cX9_digest 134 = .ok (.if_icmp .ge 29, 3) := by decide +kernel
theorem dX9_digest_137 : decode cX9_digest 137 = .ok (.lload_n 1, 1) := by decide +kernel
theorem dX9_digest_138 : decode cX9_digest 138 = .ok (.ldc2_w 329, 3) := by decide +kernel
theorem dX9_digest_141 : decode cX9_digest 141 = .ok (.lmul, 1) := by decide +kernel
theorem dX9_digest_142 : decode cX9_digest 142 = .ok (.aload_n 0, 1) := by decide +kernel
theorem dX9_digest_143 : decode cX9_digest 143 = .ok (.getfield 12, 3) := by decide +kernel
theorem dX9_digest_146 : decode cX9_digest 146 = .ok (.sipush 8432, 3) := by decide +kernel
theorem dX9_digest_149 : decode cX9_digest 149 = .ok (.iload_n 3, 1) := by decide +kernel
theorem dX9_digest_150 : decode cX9_digest 150 = .ok (.iadd, 1) := by decide +kernel
theorem dX9_digest_151 : decode cX9_digest 151 = .ok (.invokevirtual 175, 3) := by decide +kernel
theorem dX9_digest_154 : decode cX9_digest 154 = .ok (.i2l, 1) := by decide +kernel
theorem dX9_digest_155 : decode cX9_digest 155 = .ok (.ladd, 1) := by decide +kernel
theorem dX9_digest_156 : decode cX9_digest 156 = .ok (.lstore_n 1, 1) := by decide +kernel
theorem dX9_digest_157 : decode cX9_digest 157 = .ok (.iinc 3 1, 3) := by decide +kernel
theorem dX9_digest_160 : decode cX9_digest 160 = .ok (.goto (-29), 3) := by decide +kernel
theorem dX9_digest_163 : decode cX9_digest 163 = .ok (.aload_n 0, 1) := by decide +kernel
theorem dX9_digest_164 : decode cX9_digest 164 = .ok (.getfield 12, 3) := by decide +kernel
theorem dX9_digest_167 : decode cX9_digest 167 = .ok (.sipush 8550, 3) := by decide +kernel
theorem dX9_digest_170 : decode cX9_digest 170 = .ok (.invokevirtual 175, 3) := by decide +kernel
theorem dX9_digest_173 : decode cX9_digest 173 = .ok (.istore_n 3, 1) := by decide +kernel
theorem dX9_digest_174 : decode cX9_digest 174 = .ok (.iconst 0, 1) := by decide +kernel
theorem dX9_digest_175 : decode cX9_digest 175 = .ok (.istore 4, 2) := by decide +kernel
theorem dX9_digest_177 : decode cX9_digest 177 = .ok (.iload 4, 2) := by decide +kernel
theorem dX9_digest_179 : decode cX9_digest 179 = .ok (.iload_n 3, 1) := by decide +kernel
theorem dX9_digest_180 : decode cX9_digest 180 = .ok (.if_icmp .ge 30, 3) := by decide +kernel
theorem dX9_digest_183 : decode cX9_digest 183 = .ok (.lload_n 1, 1) := by decide +kernel
theorem dX9_digest_184 : decode cX9_digest 184 = .ok (.ldc2_w 329, 3) := by decide +kernel
theorem dX9_digest_187 : decode cX9_digest 187 = .ok (.lmul, 1) := by decide +kernel
theorem dX9_digest_188 : decode cX9_digest 188 = .ok (.aload_n 0, 1) := by decide +kernel
theorem dX9_digest_189 : decode cX9_digest 189 = .ok (.getfield 12, 3) := by decide +kernel
theorem dX9_digest_192 : decode cX9_digest 192 = .ok (.iload 4, 2) := by decide +kernel
theorem dX9_digest_194 : decode cX9_digest 194 = .ok (.iconst 3, 1) := by decide +kernel
theorem dX9_digest_195 : decode cX9_digest 195 = .ok (.invokestatic 221, 3) := by decide +kernel
theorem dX9_digest_198 : decode cX9_digest 198 = .ok (.invokevirtual 175, 3) := by decide +kernel
theorem dX9_digest_201 : decode cX9_digest 201 = .ok (.i2l, 1) := by decide +kernel
theorem dX9_digest_202 : decode cX9_digest 202 = .ok (.ladd, 1) := by decide +kernel
theorem dX9_digest_203 : decode cX9_digest 203 = .ok (.lstore_n 1, 1) := by decide +kernel
theorem dX9_digest_204 : decode cX9_digest 204 = .ok (.iinc 4 1, 3) := by decide +kernel
theorem dX9_digest_207 : decode cX9_digest 207 = .ok (.goto (-30), 3) := by decide +kernel
theorem dX9_digest_210 : decode cX9_digest 210 = .ok (.lload_n 1, 1) := by decide +kernel
theorem dX9_digest_211 : decode cX9_digest 211 = .ok (.lreturn, 1) := by decide +kernel
theorem dX9_status_0 : decode cX9_status 0 = .ok (.aload_n 0, 1) := by decide +kernel
theorem dX9_status_1 : decode cX9_status 1 = .ok (.getfield 81, 3) := by decide +kernel
theorem dX9_status_4 : decode cX9_status 4 = .ok (.ireturn, 1) := by decide +kernel
theorem dX9_found_0 : decode cX9_found 0 = .ok (.aload_n 0, 1) := by decide +kernel
theorem dX9_found_1 : decode cX9_found 1 = .ok (.iload_n 1, 1) := by decide +kernel
theorem dX9_found_2 : decode cX9_found 2 = .ok (.putfield 81, 3) := by decide +kernel
theorem dX9_found_5 : decode cX9_found 5 = .ok (.aload_n 0, 1) := by decide +kernel
theorem dX9_found_6 : decode cX9_found 6 = .ok (.dup, 1) := by decide +kernel
theorem dX9_found_7 : decode cX9_found 7 = .ok (.getfield 78, 3) := by decide +kernel
theorem dX9_found_10 : decode cX9_found 10 = .ok (.iconst 1, 1) := by decide +kernel
theorem dX9_found_11 : decode cX9_found 11 = .ok (.iadd, 1) := by decide +kernel
theorem dX9_found_12 : decode cX9_found 12 = .ok (.putfield 78, 3) := by decide +kernel
theorem dX9_found_15 : decode cX9_found 15 = .ok (.bipush (-20), 2) := by decide +kernel
theorem dX9_found_17 : decode cX9_found 17 = .ok (.iload_n 1, 1) := by decide +kernel
theorem dX9_found_18 : decode cX9_found 18 = .ok (.isub, 1) := by decide +kernel
theorem dX9_found_19 : decode cX9_found 19 = .ok (.ireturn, 1) := by decide +kernel
theorem dX9_enter_0 : decode cX9_enter 0 = .ok (.iload_n 1, 1) := by decide +kernel
theorem dX9_enter_1 : decode cX9_enter 1 = .ok (.invokestatic 88, 3) := by decide +kernel
theorem dX9_enter_4 : decode cX9_enter 4 = .ok (.ifCond .eq 21, 3) := by decide +kernel
theorem dX9_enter_7 : decode cX9_enter 7 = .ok (.aload_n 0, 1) := by decide +kernel
theorem dX9_enter_8 : decode cX9_enter 8 = .ok (.getfield 55, 3) := by decide +kernel
theorem dX9_enter_11 : decode cX9_enter 11 = .ok (.iload_n 1, 1) := by decide +kernel
theorem dX9_enter_12 : decode cX9_enter 12 = .ok (.dup2, 1) := by decide +kernel
theorem dX9_enter_13 : decode cX9_enter 13 = .ok (.iaload, 1) := by decide +kernel
theorem dX9_enter_14 : decode cX9_enter 14 = .ok (.iconst 1, 1) := by decide +kernel
theorem dX9_enter_15 : decode cX9_enter 15 = .ok (.aload_n 0, 1) := by decide +kernel
theorem dX9_enter_16 : decode cX9_enter 16 = .ok (.iload_n 1, 1) := by decide +kernel
theorem dX9_enter_17 : decode cX9_enter 17 = .ok (.bipush 8, 2) := by decide +kernel
theorem dX9_enter_19 : decode cX9_enter 19 = .ok (.invokevirtual 110, 3) := by decide +kernel
theorem dX9_enter_22 : decode cX9_enter 22 = .ok (.iadd, 1) := by decide +kernel
theorem dX9_enter_23 : decode cX9_enter 23 = .ok (.iadd, 1) := by decide +kernel
theorem dX9_enter_24 : decode cX9_enter 24 = .ok (.iastore, 1) := by decide +kernel
theorem dX9_enter_25 : decode cX9_enter 25 = .ok (.return_, 1) := by decide +kernel
theorem dX9_leave_0 : decode cX9_leave 0 = .ok (.iload_n 1, 1) := by decide +kernel
theorem dX9_leave_1 : decode cX9_leave 1 = .ok (.invokestatic 88, 3) := by decide +kernel
theorem dX9_leave_4 : decode cX9_leave 4 = .ok (.ifCond .eq 21, 3) := by decide +kernel
theorem dX9_leave_7 : decode cX9_leave 7 = .ok (.aload_n 0, 1) := by decide +kernel
theorem dX9_leave_8 : decode cX9_leave 8 = .ok (.getfield 59, 3) := by decide +kernel
theorem dX9_leave_11 : decode cX9_leave 11 = .ok (.iload_n 1, 1) := by decide +kernel
theorem dX9_leave_12 : decode cX9_leave 12 = .ok (.dup2, 1) := by decide +kernel
theorem dX9_leave_13 : decode cX9_leave 13 = .ok (.iaload, 1) := by decide +kernel
theorem dX9_leave_14 : decode cX9_leave 14 = .ok (.iconst 1, 1) := by decide +kernel
theorem dX9_leave_15 : decode cX9_leave 15 = .ok (.aload_n 0, 1) := by decide +kernel
theorem dX9_leave_16 : decode cX9_leave 16 = .ok (.iload_n 1, 1) := by decide +kernel
theorem dX9_leave_17 : decode cX9_leave 17 = .ok (.bipush 8, 2) := by decide +kernel
theorem dX9_leave_19 : decode cX9_leave 19 = .ok (.invokevirtual 110, 3) := by decide +kernel
theorem dX9_leave_22 : decode cX9_leave 22 = .ok (.iadd, 1) := by decide +kernel
theorem dX9_leave_23 : decode cX9_leave 23 = .ok (.iadd, 1) := by decide +kernel
theorem dX9_leave_24 : decode cX9_leave 24 = .ok (.iastore, 1) := by decide +kernel
theorem dX9_leave_25 : decode cX9_leave 25 = .ok (.return_, 1) := by decide +kernel
theorem dX9_read_0 : decode cX9_read 0 = .ok (.aload_n 0, 1) := by decide +kernel
theorem dX9_read_1 : decode cX9_read 1 = .ok (.getfield 12, 3) := by decide +kernel
theorem dX9_read_4 : decode cX9_read 4 = .ok (.iload_n 1, 1) := by decide +kernel
theorem dX9_read_5 : decode cX9_read 5 = .ok (.bipush 78, 2) := by decide +kernel
theorem dX9_read_7 : decode cX9_read 7 = .ok (.imul, 1) := by decide +kernel
theorem dX9_read_8 : decode cX9_read 8 = .ok (.iload_n 2, 1) := by decide +kernel
theorem dX9_read_9 : decode cX9_read 9 = .ok (.iadd, 1) := by decide +kernel
theorem dX9_read_10 : decode cX9_read 10 = .ok (.invokevirtual 175, 3) := by decide +kernel
theorem dX9_read_13 : decode cX9_read 13 = .ok (.ireturn, 1) := by decide +kernel
theorem dX9_write_0 : decode cX9_write 0 = .ok (.aload_n 0, 1) := by decide +kernel
theorem dX9_write_1 : decode cX9_write 1 = .ok (.getfield 12, 3) := by decide +kernel
theorem dX9_write_4 : decode cX9_write 4 = .ok (.iload_n 1, 1) := by decide +kernel
theorem dX9_write_5 : decode cX9_write 5 = .ok (.bipush 78, 2) := by decide +kernel
theorem dX9_write_7 : decode cX9_write 7 = .ok (.imul, 1) := by decide +kernel
theorem dX9_write_8 : decode cX9_write 8 = .ok (.iload_n 2, 1) := by decide +kernel
theorem dX9_write_9 : decode cX9_write 9 = .ok (.iadd, 1) := by decide +kernel
theorem dX9_write_10 : decode cX9_write 10 = .ok (.iload_n 3, 1) := by decide +kernel
theorem dX9_write_11 : decode cX9_write 11 = .ok (.invokevirtual 84, 3) := by decide +kernel
theorem dX9_write_14 : decode cX9_write 14 = .ok (.return_, 1) := by decide +kernel
theorem dX9_grow_0 : decode cX9_grow 0 = .ok (.aload_n 0, 1) := by decide +kernel
theorem dX9_grow_1 : decode cX9_grow 1 = .ok (.getfield 12, 3) := by decide +kernel
theorem dX9_grow_4 : decode cX9_grow 4 = .ok (.iload_n 1, 1) := by decide +kernel
theorem dX9_grow_5 : decode cX9_grow 5 = .ok (.bipush 78, 2) := by decide +kernel
theorem dX9_grow_7 : decode cX9_grow 7 = .ok (.imul, 1) := by decide +kernel
theorem dX9_grow_8 : decode cX9_grow 8 = .ok (.iload_n 2, 1) := by decide +kernel
theorem dX9_grow_9 : decode cX9_grow 9 = .ok (.iadd, 1) := by decide +kernel
theorem dX9_grow_10 : decode cX9_grow 10 = .ok (.iload_n 3, 1) := by decide +kernel
theorem dX9_grow_11 : decode cX9_grow 11 = .ok (.invokevirtual 193, 3) := by decide +kernel
theorem dX9_grow_14 : decode cX9_grow 14 = .ok (.return_, 1) := by decide +kernel
theorem dX9_hasMachine_0 : decode cX9_hasMachine 0 = .ok (.aload_n 0, 1) := by decide +kernel
theorem dX9_hasMachine_1 : decode cX9_hasMachine 1 = .ok (.iload_n 1, 1) := by decide +kernel
theorem dX9_hasMachine_2 : decode cX9_hasMachine 2 = .ok (.iconst 0, 1) := by decide +kernel
theorem dX9_hasMachine_3 : decode cX9_hasMachine 3 = .ok (.invokevirtual 110, 3) := by decide +kernel
theorem dX9_hasMachine_6 : decode cX9_hasMachine 6 = .ok (.ifCond .le 7, 3) := by decide +kernel
theorem dX9_hasMachine_9 : decode cX9_hasMachine 9 = .ok (.iconst 1, 1) := by decide +kernel
theorem dX9_hasMachine_10 : decode cX9_hasMachine 10 = .ok (.goto 4, 3) := by decide +kernel
theorem dX9_hasMachine_13 : decode cX9_hasMachine 13 = .ok (.iconst 0, 1) := by decide +kernel
theorem dX9_hasMachine_14 : decode cX9_hasMachine 14 = .ok (.ireturn, 1) := by decide +kernel
theorem dX9_isBank_0 : decode cX9_isBank 0 = .ok (.aload_n 0, 1) := by decide +kernel
theorem dX9_isBank_1 : decode cX9_isBank 1 = .ok (.iload_n 1, 1) := by decide +kernel
theorem dX9_isBank_2 : decode cX9_isBank 2 = .ok (.iconst 0, 1) := by decide +kernel
theorem dX9_isBank_3 : decode cX9_isBank 3 = .ok (.invokevirtual 110, 3) := by decide +kernel
theorem dX9_isBank_6 : decode cX9_isBank 6 = .ok (.iconst 5, 1) := by decide +kernel
theorem dX9_isBank_7 : decode cX9_isBank 7 = .ok (.if_icmp .ne 7, 3) := by decide +kernel
theorem dX9_isBank_10 : decode cX9_isBank 10 = .ok (.iconst 1, 1) := by decide +kernel
theorem dX9_isBank_11 : decode cX9_isBank 11 = .ok (.goto 4, 3) := by decide +kernel
theorem dX9_isBank_14 : decode cX9_isBank 14 = .ok (.iconst 0, 1) := by decide +kernel
theorem dX9_isBank_15 : decode cX9_isBank 15 = .ok (.ireturn, 1) := by decide +kernel
theorem dX9_hasRun_0 : decode cX9_hasRun 0 = .ok (.aload_n 0, 1) := by decide +kernel
theorem dX9_hasRun_1 : decode cX9_hasRun 1 = .ok (.iload_n 1, 1) := by decide +kernel
theorem dX9_hasRun_2 : decode cX9_hasRun 2 = .ok (.bipush 12, 2) := by decide +kernel
theorem dX9_hasRun_4 : decode cX9_hasRun 4 = .ok (.invokevirtual 110, 3) := by decide +kernel
theorem dX9_hasRun_7 : decode cX9_hasRun 7 = .ok (.ifCond .le 7, 3) := by decide +kernel
theorem dX9_hasRun_10 : decode cX9_hasRun 10 = .ok (.iconst 1, 1) := by decide +kernel
theorem dX9_hasRun_11 : decode cX9_hasRun 11 = .ok (.goto 4, 3) := by decide +kernel
theorem dX9_hasRun_14 : decode cX9_hasRun 14 = .ok (.iconst 0, 1) := by decide +kernel
theorem dX9_hasRun_15 : decode cX9_hasRun 15 = .ok (.ireturn, 1) := by decide +kernel
theorem dX9_isBusy_0 : decode cX9_isBusy 0 = .ok (.aload_n 0, 1) := by decide +kernel
theorem dX9_isBusy_1 : decode cX9_isBusy 1 = .ok (.iload_n 1, 1) := by decide +kernel
theorem dX9_isBusy_2 : decode cX9_isBusy 2 = .ok (.invokevirtual 114, 3) := by decide +kernel
theorem dX9_isBusy_5 : decode cX9_isBusy 5 = .ok (.ifCond .ne 13, 3) := by decide +kernel
theorem dX9_isBusy_8 : decode cX9_isBusy 8 = .ok (.aload_n 0, 1) := by decide +kernel
theorem dX9_isBusy_9 : decode cX9_isBusy 9 = .ok (.iload_n 1, 1) := by decide +kernel
theorem dX9_isBusy_10 : decode cX9_isBusy 10 = .ok (.iconst 3, 1) := by decide +kernel
theorem dX9_isBusy_11 : decode cX9_isBusy 11 = .ok (.invokevirtual 110, 3) := by decide +kernel
theorem dX9_isBusy_14 : decode cX9_isBusy 14 = .ok (.iconst 4, 1) := by decide +kernel
theorem dX9_isBusy_15 : decode cX9_isBusy 15 = .ok (.if_icmp .ne 7, 3) := by decide +kernel
theorem dX9_isBusy_18 : decode cX9_isBusy 18 = .ok (.iconst 1, 1) := by decide +kernel
theorem dX9_isBusy_19 : decode cX9_isBusy 19 = .ok (.goto 4, 3) := by decide +kernel
theorem dX9_isBusy_22 : decode cX9_isBusy 22 = .ok (.iconst 0, 1) := by decide +kernel
theorem dX9_isBusy_23 : decode cX9_isBusy 23 = .ok (.ireturn, 1) := by decide +kernel
theorem dX9_kindAt_0 : decode cX9_kindAt 0 = .ok (.aload_n 0, 1) := by decide +kernel
theorem dX9_kindAt_1 : decode cX9_kindAt 1 = .ok (.iload_n 1, 1) := by decide +kernel
theorem dX9_kindAt_2 : decode cX9_kindAt 2 = .ok (.iconst 0, 1) := by decide +kernel
theorem dX9_kindAt_3 : decode cX9_kindAt 3 = .ok (.invokevirtual 110, 3) := by decide +kernel
theorem dX9_kindAt_6 : decode cX9_kindAt 6 = .ok (.iconst 1, 1) := by decide +kernel
theorem dX9_kindAt_7 : decode cX9_kindAt 7 = .ok (.isub, 1) := by decide +kernel
theorem dX9_kindAt_8 : decode cX9_kindAt 8 = .ok (.istore_n 2, 1) := by decide +kernel
theorem dX9_kindAt_9 : decode cX9_kindAt 9 = .ok (.aload_n 0, 1) := by decide +kernel
theorem dX9_kindAt_10 : decode cX9_kindAt 10 = .ok (.getfield 51, 3) := by decide +kernel
theorem dX9_kindAt_13 : decode cX9_kindAt 13 = .ok (.iload_n 2, 1) := by decide +kernel
theorem dX9_kindAt_14 : decode cX9_kindAt 14 = .ok (.iconst 0, 1) := by decide +kernel
theorem dX9_kindAt_15 : decode cX9_kindAt 15 = .ok (.iconst 4, 1) := by decide +kernel
theorem dX9_kindAt_16 : decode cX9_kindAt 16 = .ok (.invokestatic 92, 3) := by decide +kernel
theorem dX9_kindAt_19 : decode cX9_kindAt 19 = .ok (.ifCond .eq 7, 3) := by decide +kernel
theorem dX9_kindAt_22 : decode cX9_kindAt 22 = .ok (.iload_n 2, 1) := by decide +kernel
theorem dX9_kindAt_23 : decode cX9_kindAt 23 = .ok (.goto 4, 3) := by decide +kernel
theorem dX9_kindAt_26 : decode cX9_kindAt 26 = .ok (.iconst 0, 1) := by decide +kernel
theorem dX9_kindAt_27 : decode cX9_kindAt 27 = .ok (.aaload, 1) := by decide +kernel
theorem dX9_kindAt_28 : decode cX9_kindAt 28 = .ok (.areturn, 1) := by decide +kernel
theorem dX9_roomOf_0 : decode cX9_roomOf 0 = .ok (.iconst 0, 1) := by decide +kernel
theorem dX9_roomOf_1 : decode cX9_roomOf 1 = .ok (.istore_n 2, 1) := by decide +kernel
theorem dX9_roomOf_2 : decode cX9_roomOf 2 = .ok (.iconst 0, 1) := by decide +kernel
theorem dX9_roomOf_3 : decode cX9_roomOf 3 = .ok (.istore_n 3, 1) := by decide +kernel
theorem dX9_roomOf_4 : decode cX9_roomOf 4 = .ok (.iload_n 3, 1) := by decide +kernel
theorem dX9_roomOf_5 : decode cX9_roomOf 5 = .ok (.bipush 6, 2) := by decide +kernel
theorem dX9_roomOf_7 : decode cX9_roomOf 7 = .ok (.if_icmp .ge 21, 3) := by decide +kernel
theorem dX9_roomOf_10 : decode cX9_roomOf 10 = .ok (.iload_n 2, 1) := by decide +kernel
theorem dX9_roomOf_11 : decode cX9_roomOf 11 = .ok (.aload_n 0, 1) := by decide +kernel
theorem dX9_roomOf_12 : decode cX9_roomOf 12 = .ok (.iload_n 1, 1) := by decide +kernel
theorem dX9_roomOf_13 : decode cX9_roomOf 13 = .ok (.bipush 13, 2) := by decide +kernel
theorem dX9_roomOf_15 : decode cX9_roomOf 15 = .ok (.iload_n 3, 1) := by decide +kernel
theorem dX9_roomOf_16 : decode cX9_roomOf 16 = .ok (.iadd, 1) := by decide +kernel
theorem dX9_roomOf_17 : decode cX9_roomOf 17 = .ok (.invokevirtual 110, 3) := by decide +kernel
theorem dX9_roomOf_20 : decode cX9_roomOf 20 = .ok (.iadd, 1) := by decide +kernel
theorem dX9_roomOf_21 : decode cX9_roomOf 21 = .ok (.istore_n 2, 1) := by decide +kernel
theorem dX9_roomOf_22 : decode cX9_roomOf 22 = .ok (.iinc 3 1, 3) := by decide +kernel
theorem dX9_roomOf_25 : decode cX9_roomOf 25 = .ok (.goto (-21), 3) := by decide +kernel
theorem dX9_roomOf_28 : decode cX9_roomOf 28 = .ok (.iload_n 2, 1) := by decide +kernel
theorem dX9_roomOf_29 : decode cX9_roomOf 29 = .ok (.ireturn, 1) := by decide +kernel
theorem dX9_weightInside_0 : decode cX9_weightInside 0 = .ok (.iconst 0, 1) := by decide +kernel
theorem dX9_weightInside_1 : decode cX9_weightInside 1 = .ok (.istore_n 2, 1) := by decide +kernel
theorem dX9_weightInside_2 : decode cX9_weightInside 2 = .ok (.aload_n 0, 1) := by decide +kernel
theorem dX9_weightInside_3 : decode cX9_weightInside 3 = .ok (.iload_n 1, 1) := by decide +kernel
theorem dX9_weightInside_4 : decode cX9_weightInside 4 = .ok (.bipush 9, 2) := by decide +kernel
theorem dX9_weightInside_6 : decode cX9_weightInside 6 = .ok (.invokevirtual 110, 3) := by decide +kernel
theorem dX9_weightInside_9 : decode cX9_weightInside 9 = .ok (.istore_n 3, 1) := by decide +kernel
theorem dX9_weightInside_10 : decode cX9_weightInside 10 = .ok (.iconst 0, 1) := by decide +kernel
theorem dX9_weightInside_11 : decode cX9_weightInside 11 = .ok (.istore 4, 2) := by decide +kernel
theorem dX9_weightInside_13 : decode cX9_weightInside 13 = .ok (.iload 4, 2) := by decide +kernel
theorem dX9_weightInside_15 : decode cX9_weightInside 15 = .ok (.iload_n 3, 1) := by decide +kernel
theorem dX9_weightInside_16 : decode cX9_weightInside 16 = .ok (.if_icmp .ge 33, 3) := by decide +kernel
theorem dX9_weightInside_19 : decode cX9_weightInside 19 = .ok (.iload_n 2, 1) := by decide +kernel
theorem dX9_weightInside_20 : decode cX9_weightInside 20 = .ok (.aload_n 0, 1) := by decide +kernel
theorem dX9_weightInside_21 : decode cX9_weightInside 21 = .ok (.getfield 12, 3) := by decide +kernel
theorem dX9_weightInside_24 : decode cX9_weightInside 24 = .ok (.aload_n 0, 1) := by decide +kernel
theorem dX9_weightInside_25 : decode cX9_weightInside 25 = .ok (.iload_n 1, 1) := by decide +kernel
theorem dX9_weightInside_26 : decode cX9_weightInside 26 = .ok (.bipush 19, 2) := by decide +kernel
theorem dX9_weightInside_28 : decode cX9_weightInside 28 = .ok (.iload 4, 2) := by decide +kernel
theorem dX9_weightInside_30 : decode cX9_weightInside 30 = .ok (.iadd, 1) := by decide +kernel
theorem dX9_weightInside_31 : decode cX9_weightInside 31 = .ok (.invokevirtual 110, 3) := by decide +kernel
theorem dX9_weightInside_34 : decode cX9_weightInside 34 = .ok (.iconst 1, 1) := by decide +kernel
theorem dX9_weightInside_35 : decode cX9_weightInside 35 = .ok (.invokestatic 221, 3) := by decide +kernel
theorem dX9_weightInside_38 : decode cX9_weightInside 38 = .ok (.invokevirtual 175, 3) := by decide +kernel
theorem dX9_weightInside_41 : decode cX9_weightInside 41 = .ok (.iadd, 1) := by decide +kernel
theorem dX9_weightInside_42 : decode cX9_weightInside 42 = .ok (.istore_n 2, 1) := by decide +kernel
theorem dX9_weightInside_43 : decode cX9_weightInside 43 = .ok (.iinc 4 1, 3) := by decide +kernel
theorem dX9_weightInside_46 : decode cX9_weightInside 46 = .ok (.goto (-33), 3) := by decide +kernel
theorem dX9_weightInside_49 : decode cX9_weightInside 49 = .ok (.iload_n 2, 1) := by decide +kernel
theorem dX9_weightInside_50 : decode cX9_weightInside 50 = .ok (.ireturn, 1) := by decide +kernel
theorem dX9_mixesInside_0 : decode cX9_mixesInside 0 = .ok (.aload_n 0, 1) := by decide +kernel
theorem dX9_mixesInside_1 : decode cX9_mixesInside 1 = .ok (.iload_n 1, 1) := by decide +kernel
theorem dX9_mixesInside_2 : decode cX9_mixesInside 2 = .ok (.bipush 9, 2) := by decide +kernel
theorem dX9_mixesInside_4 : decode cX9_mixesInside 4 = .ok (.invokevirtual 110, 3) := by decide +kernel
theorem dX9_mixesInside_7 : decode cX9_mixesInside 7 = .ok (.istore_n 3, 1) := by decide +kernel
theorem dX9_mixesInside_8 : decode cX9_mixesInside 8 = .ok (.iconst 0, 1) := by decide +kernel
theorem dX9_mixesInside_9 : decode cX9_mixesInside 9 = .ok (.istore 4, 2) := by decide +kernel
theorem dX9_mixesInside_11 : decode cX9_mixesInside 11 = .ok (.iload 4, 2) := by decide +kernel
theorem dX9_mixesInside_13 : decode cX9_mixesInside 13 = .ok (.iload_n 3, 1) := by decide +kernel
theorem dX9_mixesInside_14 : decode cX9_mixesInside 14 = .ok (.if_icmp .ge 40, 3) := by decide +kernel
theorem dX9_mixesInside_17 : decode cX9_mixesInside 17 = .ok (.aload_n 0, 1) := by decide +kernel
theorem dX9_mixesInside_18 : decode cX9_mixesInside 18 = .ok (.iload_n 2, 1) := by decide +kernel
theorem dX9_mixesInside_19 : decode cX9_mixesInside 19 = .ok (.aload_n 0, 1) := by decide +kernel
theorem dX9_mixesInside_20 : decode cX9_mixesInside 20 = .ok (.getfield 12, 3) := by decide +kernel
theorem dX9_mixesInside_23 : decode cX9_mixesInside 23 = .ok (.aload_n 0, 1) := by decide +kernel
theorem dX9_mixesInside_24 : decode cX9_mixesInside 24 = .ok (.iload_n 1, 1) := by decide +kernel
theorem dX9_mixesInside_25 : decode cX9_mixesInside 25 = .ok (.bipush 19, 2) := by decide +kernel
theorem dX9_mixesInside_27 : decode cX9_mixesInside 27 = .ok (.iload 4, 2) := by decide +kernel
theorem dX9_mixesInside_29 : decode cX9_mixesInside 29 = .ok (.iadd, 1) := by decide +kernel
theorem dX9_mixesInside_30 : decode cX9_mixesInside 30 = .ok (.invokevirtual 110, 3) := by decide +kernel
theorem dX9_mixesInside_33 : decode cX9_mixesInside 33 = .ok (.iconst 2, 1) := by decide +kernel
theorem dX9_mixesInside_34 : decode cX9_mixesInside 34 = .ok (.invokestatic 221, 3) := by decide +kernel
theorem dX9_mixesInside_37 : decode cX9_mixesInside 37 = .ok (.invokevirtual 175, 3) := by decide +kernel
theorem dX9_mixesInside_40 : decode cX9_mixesInside 40 = .ok (.invokevirtual 224, 3) := by decide +kernel
theorem dX9_mixesInside_43 : decode cX9_mixesInside 43 = .ok (.ifCond .ne 5, 3) := by decide +kernel
theorem dX9_mixesInside_46 : decode cX9_mixesInside 46 = .ok (.iconst 0, 1) := by decide +kernel
theorem dX9_mixesInside_47 : decode cX9_mixesInside 47 = .ok (.ireturn, 1) := by decide +kernel
theorem dX9_mixesInside_48 : decode cX9_mixesInside 48 = .ok (.iinc 4 1, 3) := by decide +kernel
theorem dX9_mixesInside_51 : decode cX9_mixesInside 51 = .ok (.goto (-40), 3) := by decide +kernel
theorem dX9_mixesInside_54 : decode cX9_mixesInside 54 = .ok (.iconst 1, 1) := by decide +kernel
theorem dX9_mixesInside_55 : decode cX9_mixesInside 55 = .ok (.ireturn, 1) := by decide +kernel
theorem dX9_mayMix_0 : decode cX9_mayMix 0 = .ok (.aload_n 0, 1) := by decide +kernel
theorem dX9_mayMix_1 : decode cX9_mayMix 1 = .ok (.getfield 12, 3) := by decide +kernel
theorem dX9_mayMix_4 : decode cX9_mayMix 4 = .ok (.iload_n 1, 1) := by decide +kernel
theorem dX9_mayMix_5 : decode cX9_mayMix 5 = .ok (.iload_n 2, 1) := by decide +kernel
theorem dX9_mayMix_6 : decode cX9_mayMix 6 = .ok (.invokestatic 227, 3) := by decide +kernel
theorem dX9_mayMix_9 : decode cX9_mayMix 9 = .ok (.invokevirtual 175, 3) := by decide +kernel
theorem dX9_mayMix_12 : decode cX9_mayMix 12 = .ok (.ifCond .ne 7, 3) := by decide +kernel
theorem dX9_mayMix_15 : decode cX9_mayMix 15 = .ok (.iconst 1, 1) := by decide +kernel
theorem dX9_mayMix_16 : decode cX9_mayMix 16 = .ok (.goto 4, 3) := by decide +kernel
theorem dX9_mayMix_19 : decode cX9_mayMix 19 = .ok (.iconst 0, 1) := by decide +kernel
theorem dX9_mayMix_20 : decode cX9_mayMix 20 = .ok (.ireturn, 1) := by decide +kernel
theorem dX9_askWishes_0 : decode cX9_askWishes 0 = .ok (.aload_n 0, 1) := by decide +kernel
theorem dX9_askWishes_1 : decode cX9_askWishes 1 = .ok (.iload_n 1, 1) := by decide +kernel
theorem dX9_askWishes_2 : decode cX9_askWishes 2 = .ok (.invokevirtual 123, 3) := by decide +kernel
theorem dX9_askWishes_5 : decode cX9_askWishes 5 = .ok (.astore_n 3, 1) := by decide +kernel
theorem dX9_askWishes_6 : decode cX9_askWishes 6 = .ok (.aload_n 0, 1) := by decide +kernel
theorem dX9_askWishes_7 : decode cX9_askWishes 7 = .ok (.iload_n 1, 1) := by decide +kernel
theorem dX9_askWishes_8 : decode cX9_askWishes 8 = .ok (.bipush 8, 2) := by decide +kernel
theorem dX9_askWishes_10 : decode cX9_askWishes 10 = .ok (.invokevirtual 110, 3) := by decide +kernel
theorem dX9_askWishes_13 : decode cX9_askWishes 13 = .ok (.istore 4, 2) := by decide +kernel
theorem dX9_askWishes_15 : decode cX9_askWishes 15 = .ok (.aload_n 0, 1) := by decide +kernel
theorem dX9_askWishes_16 : decode cX9_askWishes 16 = .ok (.getfield 68, 3) := by decide +kernel
theorem dX9_askWishes_19 : decode cX9_askWishes 19 = .ok (.iconst 0, 1) := by decide +kernel
theorem dX9_askWishes_20 : decode cX9_askWishes 20 = .ok (.aload_n 3, 1) := by decide +kernel
theorem dX9_askWishes_21 : decode cX9_askWishes 21 = .ok (.iload_n 2, 1) := by decide +kernel
theorem dX9_askWishes_22 : decode cX9_askWishes 22 = .ok (.iload 4, 2) := by decide +kernel
theorem dX9_askWishes_24 : decode cX9_askWishes 24 = .ok (.invokevirtual 141, 3) := by decide +kernel
theorem dX9_askWishes_27 : decode cX9_askWishes 27 = .ok (.iastore, 1) := by decide +kernel
theorem dX9_askWishes_28 : decode cX9_askWishes 28 = .ok (.aload_n 0, 1) := by decide +kernel
theorem dX9_askWishes_29 : decode cX9_askWishes 29 = .ok (.getfield 68, 3) := by decide +kernel
theorem dX9_askWishes_32 : decode cX9_askWishes 32 = .ok (.iconst 1, 1) := by decide +kernel
theorem dX9_askWishes_33 : decode cX9_askWishes 33 = .ok (.aload_n 3, 1) := by decide +kernel
theorem dX9_askWishes_34 : decode cX9_askWishes 34 = .ok (.iload_n 2, 1) := by decide +kernel
theorem dX9_askWishes_35 : decode cX9_askWishes 35 = .ok (.iload 4, 2) := by decide +kernel
theorem dX9_askWishes_37 : decode cX9_askWishes 37 = .ok (.invokevirtual 144, 3) := by decide +kernel
theorem dX9_askWishes_40 : decode cX9_askWishes 40 = .ok (.iastore, 1) := by decide +kernel
theorem dX9_askWishes_41 : decode cX9_askWishes 41 = .ok (.aload_n 0, 1) := by decide +kernel
theorem dX9_askWishes_42 : decode cX9_askWishes 42 = .ok (.getfield 68, 3) := by decide +kernel
theorem dX9_askWishes_45 : decode cX9_askWishes 45 = .ok (.iconst 2, 1) := by decide +kernel
theorem dX9_askWishes_46 : decode cX9_askWishes 46 = .ok (.aload_n 3, 1) := by decide +kernel
theorem dX9_askWishes_47 : decode cX9_askWishes 47 = .ok (.iload_n 2, 1) := by decide +kernel
theorem dX9_askWishes_48 : decode cX9_askWishes 48 = .ok (.iload 4, 2) := by decide +kernel
theorem dX9_askWishes_50 : decode cX9_askWishes 50 = .ok (.invokevirtual 147, 3) := by decide +kernel
theorem dX9_askWishes_53 : decode cX9_askWishes 53 = .ok (.iastore, 1) := by decide +kernel
theorem dX9_askWishes_54 : decode cX9_askWishes 54 = .ok (.return_, 1) := by decide +kernel
theorem dX9_fitsBounds_0 : decode cX9_fitsBounds 0 = .ok (.iconst 0, 1) := by decide +kernel
theorem dX9_fitsBounds_1 : decode cX9_fitsBounds 1 = .ok (.istore_n 1, 1) := by decide +kernel
theorem dX9_fitsBounds_2 : decode cX9_fitsBounds 2 = .ok (.iload_n 1, 1) := by decide +kernel
theorem dX9_fitsBounds_3 : decode cX9_fitsBounds 3 = .ok (.iconst 2, 1) := by decide +kernel
theorem dX9_fitsBounds_4 : decode cX9_fitsBounds 4 = .ok (.if_icmp .gt 39, 3) := by decide +kernel
theorem dX9_fitsBounds_7 : decode cX9_fitsBounds 7 = .ok (.aload_n 0, 1) := by decide +kernel
theorem dX9_fitsBounds_8 : decode cX9_fitsBounds 8 = .ok (.getfield 71, 3) := by decide +kernel
theorem dX9_fitsBounds_11 : decode cX9_fitsBounds 11 = .ok (.iload_n 1, 1) := by decide +kernel
theorem dX9_fitsBounds_12 : decode cX9_fitsBounds 12 = .ok (.iaload, 1) := by decide +kernel
theorem dX9_fitsBounds_13 : decode cX9_fitsBounds 13 = .ok (.aload_n 0, 1) := by decide +kernel
theorem dX9_fitsBounds_14 : decode cX9_fitsBounds 14 = .ok (.getfield 68, 3) := by decide +kernel
theorem dX9_fitsBounds_17 : decode cX9_fitsBounds 17 = .ok (.iload_n 1, 1) := by decide +kernel
theorem dX9_fitsBounds_18 : decode cX9_fitsBounds 18 = .ok (.iaload, 1) := by decide +kernel
theorem dX9_fitsBounds_19 : decode cX9_fitsBounds 19 = .ok (.iadd, 1) := by decide +kernel
theorem dX9_fitsBounds_20 : decode cX9_fitsBounds 20 = .ok (.aload_n 0, 1) := by decide +kernel
theorem dX9_fitsBounds_21 : decode cX9_fitsBounds 21 = .ok (.getfield 12, 3) := by decide +kernel
theorem dX9_fitsBounds_24 : decode cX9_fitsBounds 24 = .ok (.sipush 8544, 3) := by decide +kernel
theorem dX9_fitsBounds_27 : decode cX9_fitsBounds 27 = .ok (.iload_n 1, 1) := by decide +kernel
theorem dX9_fitsBounds_28 : decode cX9_fitsBounds 28 = .ok (.iadd, 1) := by decide +kernel
theorem dX9_fitsBounds_29 : decode cX9_fitsBounds 29 = .ok (.invokevirtual 175, 3) := by decide +kernel
theorem dX9_fitsBounds_32 : decode cX9_fitsBounds 32 = .ok (.if_icmp .le 5, 3) := by decide +kernel
theorem dX9_fitsBounds_35 : decode cX9_fitsBounds 35 = .ok (.iconst 0, 1) := by decide +kernel
theorem dX9_fitsBounds_36 : decode cX9_fitsBounds 36 = .ok (.ireturn, 1) := by decide +kernel
theorem dX9_fitsBounds_37 : decode cX9_fitsBounds 37 = .ok (.iinc 1 1, 3) := by decide +kernel
theorem dX9_fitsBounds_40 : decode cX9_fitsBounds 40 = .ok (.goto (-38), 3) := by decide +kernel
theorem dX9_fitsBounds_43 : decode cX9_fitsBounds 43 = .ok (.iconst 1, 1) := by decide +kernel
theorem dX9_fitsBounds_44 : decode cX9_fitsBounds 44 = .ok (.ireturn, 1) := by decide +kernel
theorem dX9_minutesLeft_0 : decode cX9_minutesLeft 0 = .ok (.aload_n 0, 1) := by decide +kernel
theorem dX9_minutesLeft_1 : decode cX9_minutesLeft 1 = .ok (.iload_n 1, 1) := by decide +kernel
theorem dX9_minutesLeft_2 : decode cX9_minutesLeft 2 = .ok (.bipush 12, 2) := by decide +kernel
theorem dX9_minutesLeft_4 : decode cX9_minutesLeft 4 = .ok (.invokevirtual 110, 3) := by decide +kernel
theorem dX9_minutesLeft_7 : decode cX9_minutesLeft 7 = .ok (.istore_n 2, 1) := by decide +kernel
theorem dX9_minutesLeft_8 : decode cX9_minutesLeft 8 = .ok (.aload_n 0, 1) := by decide +kernel
theorem dX9_minutesLeft_9 : decode cX9_minutesLeft 9 = .ok (.iload_n 1, 1) := by decide +kernel
theorem dX9_minutesLeft_10 : decode cX9_minutesLeft 10 = .ok (.bipush 10, 2) := by decide +kernel
theorem dX9_minutesLeft_12 : decode cX9_minutesLeft 12 = .ok (.invokevirtual 110, 3) := by decide +kernel
theorem dX9_minutesLeft_15 : decode cX9_minutesLeft 15 = .ok (.istore_n 3, 1) := by decide +kernel
theorem dX9_minutesLeft_16 : decode cX9_minutesLeft 16 = .ok (.aload_n 0, 1) := by decide +kernel
theorem dX9_minutesLeft_17 : decode cX9_minutesLeft 17 = .ok (.iload_n 1, 1) := by decide +kernel
theorem dX9_minutesLeft_18 : decode cX9_minutesLeft 18 = .ok (.bipush 11, 2) := by decide +kernel
theorem dX9_minutesLeft_20 : decode cX9_minutesLeft 20 = .ok (.invokevirtual 110, 3) := by decide +kernel
theorem dX9_minutesLeft_23 : decode cX9_minutesLeft 23 = .ok (.iconst 1, 1) := by decide +kernel
theorem dX9_minutesLeft_24 : decode cX9_minutesLeft 24 = .ok (.iadd, 1) := by decide +kernel
theorem dX9_minutesLeft_25 : decode cX9_minutesLeft 25 = .ok (.istore 4, 2) := by decide +kernel
theorem dX9_minutesLeft_27 : decode cX9_minutesLeft 27 = .ok (.iload 4, 2) := by decide +kernel
theorem dX9_minutesLeft_29 : decode cX9_minutesLeft 29 = .ok (.iload_n 3, 1) := by decide +kernel
theorem dX9_minutesLeft_30 : decode cX9_minutesLeft 30 = .ok (.if_icmp .ge 25, 3) := by decide +kernel
theorem dX9_minutesLeft_33 : decode cX9_minutesLeft 33 = .ok (.iload_n 2, 1) := by decide +kernel
theorem dX9_minutesLeft_34 : decode cX9_minutesLeft 34 = .ok (.aload_n 0, 1) := by decide +kernel
theorem dX9_minutesLeft_35 : decode cX9_minutesLeft 35 = .ok (.iload_n 1, 1) := by decide +kernel
theorem dX9_minutesLeft_36 : decode cX9_minutesLeft 36 = .ok (.bipush 48, 2) := by decide +kernel
theorem dX9_minutesLeft_38 : decode cX9_minutesLeft 38 = .ok (.iload 4, 2) := by decide +kernel
theorem dX9_minutesLeft_40 : decode cX9_minutesLeft 40 = .ok (.iadd, 1) := by decide +kernel
theorem dX9_minutesLeft_41 : decode cX9_minutesLeft 41 = .ok (.invokevirtual 110, 3) := by decide +kernel
theorem dX9_minutesLeft_44 : decode cX9_minutesLeft 44 = .ok (.invokestatic 178, 3) := by decide +kernel
theorem dX9_minutesLeft_47 : decode cX9_minutesLeft 47 = .ok (.iadd, 1) := by decide +kernel
theorem dX9_minutesLeft_48 : decode cX9_minutesLeft 48 = .ok (.istore_n 2, 1) := by decide +kernel
theorem dX9_minutesLeft_49 : decode cX9_minutesLeft 49 = .ok (.iinc 4 1, 3) := by decide +kernel
theorem dX9_minutesLeft_52 : decode cX9_minutesLeft 52 = .ok (.goto (-25), 3) := by decide +kernel
theorem dX9_minutesLeft_55 : decode cX9_minutesLeft 55 = .ok (.iload_n 2, 1) := by decide +kernel
theorem dX9_minutesLeft_56 : decode cX9_minutesLeft 56 = .ok (.ireturn, 1) := by decide +kernel
theorem dX9_shareOf_0 : decode cX9_shareOf 0 = .ok (.lconst 0, 1) := by decide +kernel
theorem dX9_shareOf_1 : decode cX9_shareOf 1 = .ok (.lstore_n 3, 1) := by decide +kernel
theorem dX9_shareOf_2 : decode cX9_shareOf 2 = .ok (.aload_n 0, 1) := by decide +kernel
theorem dX9_shareOf_3 : decode cX9_shareOf 3 = .ok (.getfield 65, 3) := by decide +kernel
theorem dX9_shareOf_6 : decode cX9_shareOf 6 = .ok (.astore 5, 2) := by decide +kernel
theorem dX9_shareOf_8 : decode cX9_shareOf 8 = .ok (.aload 5, 2) := by decide +kernel
theorem dX9_shareOf_10 : decode cX9_shareOf 10 = .ok (.arraylength, 1) := by decide +kernel
theorem dX9_shareOf_11 : decode cX9_shareOf 11 = .ok (.istore 6, 2) := by decide +kernel
theorem dX9_shareOf_13 : decode cX9_shareOf 13 = .ok (.iconst 0, 1) := by decide +kernel
theorem dX9_shareOf_14 : decode cX9_shareOf 14 = .ok (.istore 7, 2) := by decide +kernel
theorem dX9_shareOf_16 : decode cX9_shareOf 16 = .ok (.iload 7, 2) := by decide +kernel
theorem dX9_shareOf_18 : decode cX9_shareOf 18 = .ok (.iload 6, 2) := by decide +kernel
theorem dX9_shareOf_20 : decode cX9_shareOf 20 = .ok (.if_icmp .ge 22, 3) := by decide +kernel
theorem dX9_shareOf_23 : decode cX9_shareOf 23 = .ok (.aload 5, 2) := by decide +kernel
theorem dX9_shareOf_25 : decode cX9_shareOf 25 = .ok (.iload 7, 2) := by decide +kernel
theorem dX9_shareOf_27 : decode cX9_shareOf 27 = .ok (.iaload, 1) := by decide +kernel
theorem dX9_shareOf_28 : decode cX9_shareOf 28 = .ok (.istore 8, 2) := by decide +kernel
theorem dX9_shareOf_30 : decode cX9_shareOf 30 = .ok (.lload_n 3, 1) := by decide +kernel
theorem dX9_shareOf_31 : decode cX9_shareOf 31 = .ok (.iload 8, 2) := by decide +kernel
theorem dX9_shareOf_33 : decode cX9_shareOf 33 = .ok (.i2l, 1) := by decide +kernel
theorem dX9_shareOf_34 : decode cX9_shareOf 34 = .ok (.ladd, 1) := by decide +kernel
theorem dX9_shareOf_35 : decode cX9_shareOf 35 = .ok (.lstore_n 3, 1) := by decide +kernel
theorem dX9_shareOf_36 : decode cX9_shareOf 36 = .ok (.iinc 7 1, 3) := by decide +kernel
theorem dX9_shareOf_39 : decode cX9_shareOf 39 = .ok (.goto (-23), 3) := by decide +kernel
theorem dX9_shareOf_42 : decode cX9_shareOf 42 = .ok (.lload_n 3, 1) := by decide +kernel
theorem dX9_shareOf_43 : decode cX9_shareOf 43 = .ok (.lconst 0, 1) := by decide +kernel
theorem dX9_shareOf_44 : decode cX9_shareOf 44 = .ok (.lcmp, 1) := by decide +kernel
theorem dX9_shareOf_45 : decode cX9_shareOf 45 = .ok (.ifCond .le 10, 3) := by decide +kernel
theorem dX9_shareOf_48 : decode cX9_shareOf 48 = .ok (.iload_n 2, 1) := by decide +kernel
theorem dX9_shareOf_49 : decode cX9_shareOf 49 = .ok (.invokestatic 88, 3) := by decide +kernel
theorem dX9_shareOf_52 : decode cX9_shareOf 52 = .ok (.ifCond .ne 5, 3) := by decide +kernel
theorem dX9_shareOf_55 : decode cX9_shareOf 55 = .ok (.iconst 0, 1) := by decide +kernel
theorem dX9_shareOf_56 : decode cX9_shareOf 56 = .ok (.ireturn, 1) := by decide +kernel
theorem dX9_shareOf_57 : decode cX9_shareOf 57 = .ok (.iload_n 1, 1) := by decide +kernel
theorem dX9_shareOf_58 : decode cX9_shareOf 58 = .ok (.i2l, 1) := by decide +kernel
theorem dX9_shareOf_59 : decode cX9_shareOf 59 = .ok (.aload_n 0, 1) := by decide +kernel
theorem dX9_shareOf_60 : decode cX9_shareOf 60 = .ok (.getfield 65, 3) := by decide +kernel
theorem dX9_shareOf_63 : decode cX9_shareOf 63 = .ok (.iload_n 2, 1) := by decide +kernel
theorem dX9_shareOf_64 : decode cX9_shareOf 64 = .ok (.iaload, 1) := by decide +kernel
theorem dX9_shareOf_65 : decode cX9_shareOf 65 = .ok (.i2l, 1) := by decide +kernel
theorem dX9_shareOf_66 : decode cX9_shareOf 66 = .ok (.lmul, 1) := by decide +kernel
theorem dX9_shareOf_67 : decode cX9_shareOf 67 = .ok (.lstore 5, 2) := by decide +kernel
theorem dX9_shareOf_69 : decode cX9_shareOf 69 = .ok (.iload_n 1, 1) := by decide +kernel
theorem dX9_shareOf_70 : decode cX9_shareOf 70 = .ok (.i2l, 1) := by decide +kernel
theorem dX9_shareOf_71 : decode cX9_shareOf 71 = .ok (.lstore 7, 2) := by decide +kernel
theorem dX9_shareOf_73 : decode cX9_shareOf 73 = .ok (.iconst 0, 1) := by decide +kernel
theorem dX9_shareOf_74 : decode cX9_shareOf 74 = .ok (.istore 9, 2) := by decide +kernel
theorem dX9_shareOf_76 : decode cX9_shareOf 76 = .ok (.iconst 0, 1) := by decide +kernel
theorem dX9_shareOf_77 : decode cX9_shareOf 77 = .ok (.istore 10, 2) := by decide +kernel
theorem dX9_shareOf_79 : decode cX9_shareOf 79 = .ok (.iload 10, 2) := by decide +kernel
theorem dX9_shareOf_81 : decode cX9_shareOf 81 = .ok (.bipush 60, 2) := by decide +kernel
theorem dX9_shareOf_83 : decode cX9_shareOf 83 = .ok (.if_icmp .ge 76, 3) := by decide +kernel
theorem dX9_shareOf_86 : decode cX9_shareOf 86 = .ok (.iload_n 1, 1) := by decide +kernel
theorem dX9_shareOf_87 : decode cX9_shareOf 87 = .ok (.i2l, 1) := by decide +kernel
theorem dX9_shareOf_88 : decode cX9_shareOf 88 = .ok (.aload_n 0, 1) := by decide +kernel
theorem dX9_shareOf_89 : decode cX9_shareOf 89 = .ok (.getfield 65, 3) := by decide +kernel
theorem dX9_shareOf_92 : decode cX9_shareOf 92 = .ok (.iload 10, 2) := by decide +kernel
theorem dX9_shareOf_94 : decode cX9_shareOf 94 = .ok (.iaload, 1) := by decide +kernel
theorem dX9_shareOf_95 : decode cX9_shareOf 95 = .ok (.i2l, 1) := by decide +kernel
theorem dX9_shareOf_96 : decode cX9_shareOf 96 = .ok (.lmul, 1) := by decide +kernel
theorem dX9_shareOf_97 : decode cX9_shareOf 97 = .ok (.lstore 11, 2) := by decide +kernel
theorem dX9_shareOf_99 : decode cX9_shareOf 99 = .ok (.lload 7, 2) := by decide +kernel
theorem dX9_shareOf_101 : decode cX9_shareOf 101 = .ok (.lload 11, 2) := by decide +kernel
theorem dX9_shareOf_103 : decode cX9_shareOf 103 = .ok (.lload_n 3, 1) := by decide +kernel
theorem dX9_shareOf_104 : decode cX9_shareOf 104 = .ok (.ldiv, 1) := by decide +kernel
theorem dX9_shareOf_105 : decode cX9_shareOf 105 = .ok (.lsub, 1) := by decide +kernel
theorem dX9_shareOf_106 : decode cX9_shareOf 106 = .ok (.lstore 7, 2) := by decide +kernel
theorem dX9_shareOf_108 : decode cX9_shareOf 108 = .ok (.iload 10, 2) := by decide +kernel
theorem dX9_shareOf_110 : decode cX9_shareOf 110 = .ok (.iload_n 2, 1) := by decide +kernel
theorem dX9_shareOf_111 : decode cX9_shareOf 111 = .ok (.if_icmp .ge 19, 3) := by decide +kernel
theorem dX9_shareOf_114 : decode cX9_shareOf 114 = .ok (.lload 11, 2) := by decide +kernel
theorem dX9_shareOf_116 : decode cX9_shareOf 116 = .ok (.lload_n 3, 1) := by decide +kernel
theorem dX9_shareOf_117 : decode cX9_shareOf 117 = .ok (.lrem, 1) := by decide +kernel
theorem dX9_shareOf_118 : decode cX9_shareOf 118 = .ok (.lload 5, 2) := by decide +kernel
theorem dX9_shareOf_120 : decode cX9_shareOf 120 = .ok (.lload_n 3, 1) := by decide +kernel
theorem dX9_shareOf_121 : decode cX9_shareOf 121 = .ok (.lrem, 1) := by decide +kernel
theorem dX9_shareOf_122 : decode cX9_shareOf 122 = .ok (.lcmp, 1) := by decide +kernel
theorem dX9_shareOf_123 : decode cX9_shareOf 123 = .ok (.ifCond .ne 7, 3) := by decide +kernel
theorem dX9_shareOf_126 : decode cX9_shareOf 126 = .ok (.iconst 1, 1) := by decide +kernel
theorem dX9_shareOf_127 : decode cX9_shareOf 127 = .ok (.goto 4, 3) := by decide +kernel
theorem dX9_shareOf_130 : decode cX9_shareOf 130 = .ok (.iconst 0, 1) := by decide +kernel
theorem dX9_shareOf_131 : decode cX9_shareOf 131 = .ok (.istore 13, 2) := by decide +kernel
theorem dX9_shareOf_133 : decode cX9_shareOf 133 = .ok (.lload 11, 2) := by decide +kernel
theorem dX9_shareOf_135 : decode cX9_shareOf 135 = .ok (.lload_n 3, 1) := by decide +kernel
theorem dX9_shareOf_136 : decode cX9_shareOf 136 = .ok (.lrem, 1) := by decide +kernel
theorem dX9_shareOf_137 : decode cX9_shareOf 137 = .ok (.lload 5, 2) := by decide +kernel
theorem dX9_shareOf_139 : decode cX9_shareOf 139 = .ok (.lload_n 3, 1) := by decide +kernel
theorem dX9_shareOf_140 : decode cX9_shareOf 140 = .ok (.lrem, 1) := by decide +kernel
theorem dX9_shareOf_141 : decode cX9_shareOf 141 = .ok (.lcmp, 1) := by decide +kernel
theorem dX9_shareOf_142 : decode cX9_shareOf 142 = .ok (.ifCond .gt 8, 3) := by decide +kernel
theorem dX9_shareOf_145 : decode cX9_shareOf 145 = .ok (.iload 13, 2) := by decide +kernel
theorem dX9_shareOf_147 : decode cX9_shareOf 147 = .ok (.ifCond .eq 6, 3) := by decide +kernel
theorem dX9_shareOf_150 : decode cX9_shareOf 150 = .ok (.iinc 9 1, 3) := by decide +kernel
theorem dX9_shareOf_153 : decode cX9_shareOf 153 = .ok (.iinc 10 1, 3) := by decide +kernel
theorem dX9_shareOf_156 : decode cX9_shareOf 156 = .ok (.goto (-77), 3) := by decide +kernel
theorem dX9_shareOf_159 : decode cX9_shareOf 159 = .ok (.lload 5, 2) := by decide +kernel
theorem dX9_shareOf_161 : decode cX9_shareOf 161 = .ok (.lload_n 3, 1) := by decide +kernel
theorem dX9_shareOf_162 : decode cX9_shareOf 162 = .ok (.ldiv, 1) := by decide +kernel
theorem dX9_shareOf_163 : decode cX9_shareOf 163 = .ok (.l2i, 1) := by decide +kernel
theorem dX9_shareOf_164 : decode cX9_shareOf 164 = .ok (.iload 9, 2) := by decide +kernel
theorem dX9_shareOf_166 : decode cX9_shareOf 166 = .ok (.i2l, 1) := by decide +kernel
theorem dX9_shareOf_167 : decode cX9_shareOf 167 = .ok (.lload 7, 2) := by decide +kernel
theorem dX9_shareOf_169 : decode cX9_shareOf 169 = .ok (.lcmp, 1) := by decide +kernel
theorem dX9_shareOf_170 : decode cX9_shareOf 170 = .ok (.ifCond .ge 7, 3) := by decide +kernel
theorem dX9_shareOf_173 : decode cX9_shareOf 173 = .ok (.iconst 1, 1) := by decide +kernel
theorem dX9_shareOf_174 : decode cX9_shareOf 174 = .ok (.goto 4, 3) := by decide +kernel
theorem dX9_shareOf_177 : decode cX9_shareOf 177 = .ok (.iconst 0, 1) := by decide +kernel
theorem dX9_shareOf_178 : decode cX9_shareOf 178 = .ok (.iadd, 1) := by decide +kernel
theorem dX9_shareOf_179 : decode cX9_shareOf 179 = .ok (.ireturn, 1) := by decide +kernel
theorem dX9_countMachines_0 : decode cX9_countMachines 0 = .ok (.iconst 0, 1) := by decide +kernel
theorem dX9_countMachines_1 : decode cX9_countMachines 1 = .ok (.istore_n 1, 1) := by decide +kernel
theorem dX9_countMachines_2 : decode cX9_countMachines 2 = .ok (.iconst 0, 1) := by decide +kernel
theorem dX9_countMachines_3 : decode cX9_countMachines 3 = .ok (.istore_n 2, 1) := by decide +kernel
theorem dX9_countMachines_4 : decode cX9_countMachines 4 = .ok (.iload_n 2, 1) := by decide +kernel
theorem dX9_countMachines_5 : decode cX9_countMachines 5 = .ok (.bipush 60, 2) := by decide +kernel
theorem dX9_countMachines_7 : decode cX9_countMachines 7 = .ok (.if_icmp .ge 25, 3) := by decide +kernel
theorem dX9_countMachines_10 : decode cX9_countMachines 10 = .ok (.iload_n 1, 1) := by decide +kernel
theorem dX9_countMachines_11 : decode cX9_countMachines 11 = .ok (.aload_n 0, 1) := by decide +kernel
theorem dX9_countMachines_12 : decode cX9_countMachines 12 = .ok (.iload_n 2, 1) := by decide +kernel
theorem dX9_countMachines_13 : decode cX9_countMachines 13 = .ok (.invokevirtual 96, 3) := by decide +kernel
theorem dX9_countMachines_16 : decode cX9_countMachines 16 = .ok (.ifCond .eq 7, 3) := by decide +kernel
theorem dX9_countMachines_19 : decode cX9_countMachines 19 = .ok (.iconst 1, 1) := by decide +kernel
theorem dX9_countMachines_20 : decode cX9_countMachines 20 = .ok (.goto 4, 3) := by decide +kernel
theorem dX9_countMachines_23 : decode cX9_countMachines 23 = .ok (.iconst 0, 1) := by decide +kernel
theorem dX9_countMachines_24 : decode cX9_countMachines 24 = .ok (.iadd, 1) := by decide +kernel
theorem dX9_countMachines_25 : decode cX9_countMachines 25 = .ok (.istore_n 1, 1) := by decide +kernel
theorem dX9_countMachines_26 : decode cX9_countMachines 26 = .ok (.iinc 2 1, 3) := by decide +kernel
theorem dX9_countMachines_29 : decode cX9_countMachines 29 = .ok (.goto (-25), 3) := by decide +kernel
theorem dX9_countMachines_32 : decode cX9_countMachines 32 = .ok (.iload_n 1, 1) := by decide +kernel
theorem dX9_countMachines_33 : decode cX9_countMachines 33 = .ok (.ireturn, 1) := by decide +kernel
theorem dX9_countPrograms_0 : decode cX9_countPrograms 0 = .ok (.iconst 0, 1) := by decide +kernel
theorem dX9_countPrograms_1 : decode cX9_countPrograms 1 = .ok (.istore_n 1, 1) := by decide +kernel
theorem dX9_countPrograms_2 : decode cX9_countPrograms 2 = .ok (.iconst 0, 1) := by decide +kernel
theorem dX9_countPrograms_3 : decode cX9_countPrograms 3 = .ok (.istore_n 2, 1) := by decide +kernel
theorem dX9_countPrograms_4 : decode cX9_countPrograms 4 = .ok (.iload_n 2, 1) := by decide +kernel
theorem dX9_countPrograms_5 : decode cX9_countPrograms 5 = .ok (.bipush 40, 2) := by decide +kernel
theorem dX9_countPrograms_7 : decode cX9_countPrograms 7 = .ok (.if_icmp .ge 25, 3) := by decide +kernel
theorem dX9_countPrograms_10 : decode cX9_countPrograms 10 = .ok (.iload_n 1, 1) := by decide +kernel
theorem dX9_countPrograms_11 : decode cX9_countPrograms 11 = .ok (.aload_n 0, 1) := by decide +kernel
theorem dX9_countPrograms_12 : decode cX9_countPrograms 12 = .ok (.iload_n 2, 1) := by decide +kernel
theorem dX9_countPrograms_13 : decode cX9_countPrograms 13 = .ok (.invokevirtual 169, 3) := by decide +kernel
theorem dX9_countPrograms_16 : decode cX9_countPrograms 16 = .ok (.ifCond .eq 7, 3) := by decide +kernel
theorem dX9_countPrograms_19 : decode cX9_countPrograms 19 = .ok (.iconst 1, 1) := by decide +kernel
theorem dX9_countPrograms_20 : decode cX9_countPrograms 20 = .ok (.goto 4, 3) := by decide +kernel
theorem dX9_countPrograms_23 : decode cX9_countPrograms 23 = .ok (.iconst 0, 1) := by decide +kernel
theorem dX9_countPrograms_24 : decode cX9_countPrograms 24 = .ok (.iadd, 1) := by decide +kernel
theorem dX9_countPrograms_25 : decode cX9_countPrograms 25 = .ok (.istore_n 1, 1) := by decide +kernel
theorem dX9_countPrograms_26 : decode cX9_countPrograms 26 = .ok (.iinc 2 1, 3) := by decide +kernel
theorem dX9_countPrograms_29 : decode cX9_countPrograms 29 = .ok (.goto (-25), 3) := by decide +kernel
theorem dX9_countPrograms_32 : decode cX9_countPrograms 32 = .ok (.iload_n 1, 1) := by decide +kernel
theorem dX9_countPrograms_33 : decode cX9_countPrograms 33 = .ok (.ireturn, 1) := by decide +kernel
theorem dX9_countRuns_0 : decode cX9_countRuns 0 = .ok (.iconst 0, 1) := by decide +kernel
theorem dX9_countRuns_1 : decode cX9_countRuns 1 = .ok (.istore_n 1, 1) := by decide +kernel
theorem dX9_countRuns_2 : decode cX9_countRuns 2 = .ok (.iconst 0, 1) := by decide +kernel
theorem dX9_countRuns_3 : decode cX9_countRuns 3 = .ok (.istore_n 2, 1) := by decide +kernel
theorem dX9_countRuns_4 : decode cX9_countRuns 4 = .ok (.iload_n 2, 1) := by decide +kernel
theorem dX9_countRuns_5 : decode cX9_countRuns 5 = .ok (.bipush 60, 2) := by decide +kernel
theorem dX9_countRuns_7 : decode cX9_countRuns 7 = .ok (.if_icmp .ge 25, 3) := by decide +kernel
theorem dX9_countRuns_10 : decode cX9_countRuns 10 = .ok (.iload_n 1, 1) := by decide +kernel
theorem dX9_countRuns_11 : decode cX9_countRuns 11 = .ok (.aload_n 0, 1) := by decide +kernel
theorem dX9_countRuns_12 : decode cX9_countRuns 12 = .ok (.iload_n 2, 1) := by decide +kernel
theorem dX9_countRuns_13 : decode cX9_countRuns 13 = .ok (.invokevirtual 114, 3) := by decide +kernel
theorem dX9_countRuns_16 : decode cX9_countRuns 16 = .ok (.ifCond .eq 7, 3) := by decide +kernel
theorem dX9_countRuns_19 : decode cX9_countRuns 19 = .ok (.iconst 1, 1) := by decide +kernel
theorem dX9_countRuns_20 : decode cX9_countRuns 20 = .ok (.goto 4, 3) := by decide +kernel
theorem dX9_countRuns_23 : decode cX9_countRuns 23 = .ok (.iconst 0, 1) := by decide +kernel
theorem dX9_countRuns_24 : decode cX9_countRuns 24 = .ok (.iadd, 1) := by decide +kernel
theorem dX9_countRuns_25 : decode cX9_countRuns 25 = .ok (.istore_n 1, 1) := by decide +kernel
theorem dX9_countRuns_26 : decode cX9_countRuns 26 = .ok (.iinc 2 1, 3) := by decide +kernel
theorem dX9_countRuns_29 : decode cX9_countRuns 29 = .ok (.goto (-25), 3) := by decide +kernel
theorem dX9_countRuns_32 : decode cX9_countRuns 32 = .ok (.iload_n 1, 1) := by decide +kernel
theorem dX9_countRuns_33 : decode cX9_countRuns 33 = .ok (.ireturn, 1) := by decide +kernel
theorem dX9_hasProgram_0 : decode cX9_hasProgram 0 = .ok (.aload_n 0, 1) := by decide +kernel
theorem dX9_hasProgram_1 : decode cX9_hasProgram 1 = .ok (.getfield 12, 3) := by decide +kernel
theorem dX9_hasProgram_4 : decode cX9_hasProgram 4 = .ok (.iload_n 1, 1) := by decide +kernel
theorem dX9_hasProgram_5 : decode cX9_hasProgram 5 = .ok (.invokestatic 163, 3) := by decide +kernel
theorem dX9_hasProgram_8 : decode cX9_hasProgram 8 = .ok (.invokevirtual 175, 3) := by decide +kernel
theorem dX9_hasProgram_11 : decode cX9_hasProgram 11 = .ok (.ifCond .le 7, 3) := by decide +kernel
theorem dX9_hasProgram_14 : decode cX9_hasProgram 14 = .ok (.iconst 1, 1) := by decide +kernel
theorem dX9_hasProgram_15 : decode cX9_hasProgram 15 = .ok (.goto 4, 3) := by decide +kernel
theorem dX9_hasProgram_18 : decode cX9_hasProgram 18 = .ok (.iconst 0, 1) := by decide +kernel
theorem dX9_hasProgram_19 : decode cX9_hasProgram 19 = .ok (.ireturn, 1) := by decide +kernel
theorem dX9_lengthOf_0 : decode cX9_lengthOf 0 = .ok (.aload_n 0, 1) := by decide +kernel
theorem dX9_lengthOf_1 : decode cX9_lengthOf 1 = .ok (.getfield 12, 3) := by decide +kernel
theorem dX9_lengthOf_4 : decode cX9_lengthOf 4 = .ok (.iload_n 1, 1) := by decide +kernel
theorem dX9_lengthOf_5 : decode cX9_lengthOf 5 = .ok (.invokestatic 163, 3) := by decide +kernel
theorem dX9_lengthOf_8 : decode cX9_lengthOf 8 = .ok (.invokevirtual 175, 3) := by decide +kernel
theorem dX9_lengthOf_11 : decode cX9_lengthOf 11 = .ok (.iconst 1, 1) := by decide +kernel
theorem dX9_lengthOf_12 : decode cX9_lengthOf 12 = .ok (.isub, 1) := by decide +kernel
theorem dX9_lengthOf_13 : decode cX9_lengthOf 13 = .ok (.ireturn, 1) := by decide +kernel
theorem dX9_isLoad_0 : decode cX9_isLoad 0 = .ok (.iload_n 1, 1) := by decide +kernel
theorem dX9_isLoad_1 : decode cX9_isLoad 1 = .ok (.iconst 0, 1) := by decide +kernel
theorem dX9_isLoad_2 : decode cX9_isLoad 2 = .ok (.aload_n 0, 1) := by decide +kernel
theorem dX9_isLoad_3 : decode cX9_isLoad 3 = .ok (.getfield 12, 3) := by decide +kernel
theorem dX9_isLoad_6 : decode cX9_isLoad 6 = .ok (.sipush 8550, 3) := by decide +kernel
theorem dX9_isLoad_9 : decode cX9_isLoad 9 = .ok (.invokevirtual 175, 3) := by decide +kernel
theorem dX9_isLoad_12 : decode cX9_isLoad 12 = .ok (.iconst 1, 1) := by decide +kernel
theorem dX9_isLoad_13 : decode cX9_isLoad 13 = .ok (.isub, 1) := by decide +kernel
theorem dX9_isLoad_14 : decode cX9_isLoad 14 = .ok (.invokestatic 92, 3) := by decide +kernel
theorem dX9_isLoad_17 : decode cX9_isLoad 17 = .ok (.ireturn, 1) := by decide +kernel
theorem dX9_isPlace_0 : decode cX9_isPlace 0 = .ok (.iload_n 0, 1) := by decide +kernel
theorem dX9_isPlace_1 : decode cX9_isPlace 1 = .ok (.iconst 0, 1) := by decide +kernel
theorem dX9_isPlace_2 : decode cX9_isPlace 2 = .ok (.bipush 59, 2) := by decide +kernel
theorem dX9_isPlace_4 : decode cX9_isPlace 4 = .ok (.invokestatic 92, 3) := by decide +kernel
theorem dX9_isPlace_7 : decode cX9_isPlace 7 = .ok (.ireturn, 1) := by decide +kernel
theorem dX9_isProgram_0 : decode cX9_isProgram 0 = .ok (.iload_n 0, 1) := by decide +kernel
theorem dX9_isProgram_1 : decode cX9_isProgram 1 = .ok (.iconst 0, 1) := by decide +kernel
theorem dX9_isProgram_2 : decode cX9_isProgram 2 = .ok (.bipush 39, 2) := by decide +kernel
theorem dX9_isProgram_4 : decode cX9_isProgram 4 = .ok (.invokestatic 92, 3) := by decide +kernel
theorem dX9_isProgram_7 : decode cX9_isProgram 7 = .ok (.ireturn, 1) := by decide +kernel
theorem dX9_isTube_0 : decode cX9_isTube 0 = .ok (.iload_n 0, 1) := by decide +kernel
theorem dX9_isTube_1 : decode cX9_isTube 1 = .ok (.iconst 0, 1) := by decide +kernel
theorem dX9_isTube_2 : decode cX9_isTube 2 = .ok (.bipush 11, 2) := by decide +kernel
theorem dX9_isTube_4 : decode cX9_isTube 4 = .ok (.invokestatic 92, 3) := by decide +kernel
theorem dX9_isTube_7 : decode cX9_isTube 7 = .ok (.ireturn, 1) := by decide +kernel
theorem dX9_isColour_0 : decode cX9_isColour 0 = .ok (.iload_n 0, 1) := by decide +kernel
theorem dX9_isColour_1 : decode cX9_isColour 1 = .ok (.iconst 0, 1) := by decide +kernel
theorem dX9_isColour_2 : decode cX9_isColour 2 = .ok (.bipush 9, 2) := by decide +kernel
theorem dX9_isColour_4 : decode cX9_isColour 4 = .ok (.invokestatic 92, 3) := by decide +kernel
theorem dX9_isColour_7 : decode cX9_isColour 7 = .ok (.ireturn, 1) := by decide +kernel
theorem dX9_isWish_0 : decode cX9_isWish 0 = .ok (.iload_n 0, 1) := by decide +kernel
theorem dX9_isWish_1 : decode cX9_isWish 1 = .ok (.iconst 4, 1) := by decide +kernel
theorem dX9_isWish_2 : decode cX9_isWish 2 = .ok (.if_icmp .ne 12, 3) := by decide +kernel
theorem dX9_isWish_5 : decode cX9_isWish 5 = .ok (.iload_n 1, 1) := by decide +kernel
theorem dX9_isWish_6 : decode cX9_isWish 6 = .ok (.iconst 0, 1) := by decide +kernel
theorem dX9_isWish_7 : decode cX9_isWish 7 = .ok (.sipush 1000, 3) := by decide +kernel
theorem dX9_isWish_10 : decode cX9_isWish 10 = .ok (.invokestatic 92, 3) := by decide +kernel
theorem dX9_isWish_13 : decode cX9_isWish 13 = .ok (.ireturn, 1) := by decide +kernel
theorem dX9_isWish_14 : decode cX9_isWish 14 = .ok (.iload_n 0, 1) := by decide +kernel
theorem dX9_isWish_15 : decode cX9_isWish 15 = .ok (.iconst 3, 1) := by decide +kernel
theorem dX9_isWish_16 : decode cX9_isWish 16 = .ok (.if_icmp .eq 21, 3) := by decide +kernel
theorem dX9_isWish_19 : decode cX9_isWish 19 = .ok (.iload_n 0, 1) := by decide +kernel
theorem dX9_isWish_20 : decode cX9_isWish 20 = .ok (.iconst 0, 1) := by decide +kernel
theorem dX9_isWish_21 : decode cX9_isWish 21 = .ok (.iconst 2, 1) := by decide +kernel
theorem dX9_isWish_22 : decode cX9_isWish 22 = .ok (.invokestatic 92, 3) := by decide +kernel
theorem dX9_isWish_25 : decode cX9_isWish 25 = .ok (.ifCond .eq 16, 3) := by decide +kernel
theorem dX9_isWish_28 : decode cX9_isWish 28 = .ok (.iload_n 1, 1) := by decide +kernel
theorem dX9_isWish_29 : decode cX9_isWish 29 = .ok (.iconst 0, 1) := by decide +kernel
theorem dX9_isWish_30 : decode cX9_isWish 30 = .ok (.iconst 4, 1) := by decide +kernel
theorem dX9_isWish_31 : decode cX9_isWish 31 = .ok (.invokestatic 92, 3) := by decide +kernel
theorem dX9_isWish_34 : decode cX9_isWish 34 = .ok (.ifCond .eq 7, 3) := by decide +kernel
theorem dX9_isWish_37 : decode cX9_isWish 37 = .ok (.iconst 1, 1) := by decide +kernel
theorem dX9_isWish_38 : decode cX9_isWish 38 = .ok (.goto 4, 3) := by decide +kernel
theorem dX9_isWish_41 : decode cX9_isWish 41 = .ok (.iconst 0, 1) := by decide +kernel
theorem dX9_isWish_42 : decode cX9_isWish 42 = .ok (.ireturn, 1) := by decide +kernel
theorem dX9_within_0 : decode cX9_within 0 = .ok (.iload_n 0, 1) := by decide +kernel
theorem dX9_within_1 : decode cX9_within 1 = .ok (.iload_n 1, 1) := by decide +kernel
theorem dX9_within_2 : decode cX9_within 2 = .ok (.if_icmp .lt 12, 3) := by decide +kernel
theorem dX9_within_5 : decode cX9_within 5 = .ok (.iload_n 0, 1) := by decide +kernel
theorem dX9_within_6 : decode cX9_within 6 = .ok (.iload_n 2, 1) := by decide +kernel
theorem dX9_within_7 : decode cX9_within 7 = .ok (.if_icmp .gt 7, 3) := by decide +kernel
theorem dX9_within_10 : decode cX9_within 10 = .ok (.iconst 1, 1) := by decide +kernel
theorem dX9_within_11 : decode cX9_within 11 = .ok (.goto 4, 3) := by decide +kernel
theorem dX9_within_14 : decode cX9_within 14 = .ok (.iconst 0, 1) := by decide +kernel
theorem dX9_within_15 : decode cX9_within 15 = .ok (.ireturn, 1) := by decide +kernel
theorem dX9_programCell_0 : decode cX9_programCell 0 = .ok (.sipush 4680, 3) := by decide +kernel
theorem dX9_programCell_3 : decode cX9_programCell 3 = .ok (.iload_n 0, 1) := by decide +kernel
theorem dX9_programCell_4 : decode cX9_programCell 4 = .ok (.bipush 31, 2) := by decide +kernel
theorem dX9_programCell_6 : decode cX9_programCell 6 = .ok (.imul, 1) := by decide +kernel
theorem dX9_programCell_7 : decode cX9_programCell 7 = .ok (.iadd, 1) := by decide +kernel
theorem dX9_programCell_8 : decode cX9_programCell 8 = .ok (.ireturn, 1) := by decide +kernel
theorem dX9_stepCell_0 : decode cX9_stepCell 0 = .ok (.iload_n 0, 1) := by decide +kernel
theorem dX9_stepCell_1 : decode cX9_stepCell 1 = .ok (.invokestatic 163, 3) := by decide +kernel
theorem dX9_stepCell_4 : decode cX9_stepCell 4 = .ok (.iconst 1, 1) := by decide +kernel
theorem dX9_stepCell_5 : decode cX9_stepCell 5 = .ok (.iadd, 1) := by decide +kernel
theorem dX9_stepCell_6 : decode cX9_stepCell 6 = .ok (.iload_n 1, 1) := by decide +kernel
theorem dX9_stepCell_7 : decode cX9_stepCell 7 = .ok (.iadd, 1) := by decide +kernel
theorem dX9_stepCell_8 : decode cX9_stepCell 8 = .ok (.ireturn, 1) := by decide +kernel
theorem dX9_loadCell_0 : decode cX9_loadCell 0 = .ok (.sipush 5920, 3) := by decide +kernel
theorem dX9_loadCell_3 : decode cX9_loadCell 3 = .ok (.iload_n 0, 1) := by decide +kernel
theorem dX9_loadCell_4 : decode cX9_loadCell 4 = .ok (.iconst 5, 1) := by decide +kernel
theorem dX9_loadCell_5 : decode cX9_loadCell 5 = .ok (.imul, 1) := by decide +kernel
theorem dX9_loadCell_6 : decode cX9_loadCell 6 = .ok (.iadd, 1) := by decide +kernel
theorem dX9_loadCell_7 : decode cX9_loadCell 7 = .ok (.iload_n 1, 1) := by decide +kernel
theorem dX9_loadCell_8 : decode cX9_loadCell 8 = .ok (.iadd, 1) := by decide +kernel
theorem dX9_loadCell_9 : decode cX9_loadCell 9 = .ok (.ireturn, 1) := by decide +kernel
theorem dX9_barredCell_0 : decode cX9_barredCell 0 = .ok (.sipush 8444, 3) := by decide +kernel
theorem dX9_barredCell_3 : decode cX9_barredCell 3 = .ok (.iload_n 0, 1) := by decide +kernel
theorem dX9_barredCell_4 : decode cX9_barredCell 4 = .ok (.bipush 10, 2) := by decide +kernel
theorem dX9_barredCell_6 : decode cX9_barredCell 6 = .ok (.imul, 1) := by decide +kernel
theorem dX9_barredCell_7 : decode cX9_barredCell 7 = .ok (.iadd, 1) := by decide +kernel
theorem dX9_barredCell_8 : decode cX9_barredCell 8 = .ok (.iload_n 1, 1) := by decide +kernel
theorem dX9_barredCell_9 : decode cX9_barredCell 9 = .ok (.iadd, 1) := by decide +kernel
theorem dX9_barredCell_10 : decode cX9_barredCell 10 = .ok (.ireturn, 1) := by decide +kernel
theorem dX9_kindOf_0 : decode cX9_kindOf 0 = .ok (.iload_n 0, 1) := by decide +kernel
theorem dX9_kindOf_1 : decode cX9_kindOf 1 = .ok (.sipush 1000, 3) := by decide +kernel
theorem dX9_kindOf_4 : decode cX9_kindOf 4 = .ok (.idiv, 1) := by decide +kernel
theorem dX9_kindOf_5 : decode cX9_kindOf 5 = .ok (.ireturn, 1) := by decide +kernel
theorem dX9_minutesOf_0 : decode cX9_minutesOf 0 = .ok (.iload_n 0, 1) := by decide +kernel
theorem dX9_minutesOf_1 : decode cX9_minutesOf 1 = .ok (.sipush 1000, 3) := by decide +kernel
theorem dX9_minutesOf_4 : decode cX9_minutesOf 4 = .ok (.irem, 1) := by decide +kernel
theorem dX9_minutesOf_5 : decode cX9_minutesOf 5 = .ok (.ireturn, 1) := by decide +kernel
theorem dX10_init_0 : decode cX10_init 0 = .ok (.aload_n 0, 1) := by decide +kernel
theorem dX10_init_1 : decode cX10_init 1 = .ok (.invokespecial 1, 3) := by decide +kernel
theorem dX10_init_4 : decode cX10_init 4 = .ok (.aload_n 0, 1) := by decide +kernel
theorem dX10_init_5 : decode cX10_init 5 = .ok (.sipush 11360, 3) := by decide +kernel
theorem dX10_init_8 : decode cX10_init 8 = .ok (.newarray .int, 2) := by decide +kernel
theorem dX10_init_10 : decode cX10_init 10 = .ok (.putfield 7, 3) := by decide +kernel
theorem dX10_init_13 : decode cX10_init 13 = .ok (.aload_n 0, 1) := by decide +kernel
theorem dX10_init_14 : decode cX10_init 14 = .ok (.ldc 13, 2) := by decide +kernel
theorem dX10_init_16 : decode cX10_init 16 = .ok (.newarray .int, 2) := by decide +kernel
theorem dX10_init_18 : decode cX10_init 18 = .ok (.putfield 14, 3) := by decide +kernel
theorem dX10_init_21 : decode cX10_init 21 = .ok (.aload_n 0, 1) := by decide +kernel
theorem dX10_init_22 : decode cX10_init 22 = .ok (.ldc 13, 2) := by decide +kernel
theorem dX10_init_24 : decode cX10_init 24 = .ok (.newarray .int, 2) := by decide +kernel
theorem dX10_init_26 : decode cX10_init 26 = .ok (.putfield 17, 3) := by decide +kernel
theorem dX10_init_29 : decode cX10_init 29 = .ok (.aload_n 0, 1) := by decide +kernel
theorem dX10_init_30 : decode cX10_init 30 = .ok (.sipush 301, 3) := by decide +kernel
theorem dX10_init_33 : decode cX10_init 33 = .ok (.newarray .int, 2) := by decide +kernel
theorem dX10_init_35 : decode cX10_init 35 = .ok (.putfield 20, 3) := by decide +kernel
theorem dX10_init_38 : decode cX10_init 38 = .ok (.aload_n 0, 1) := by decide +kernel
theorem dX10_init_39 : decode cX10_init 39 = .ok (.bipush 30, 2) := by decide +kernel
theorem dX10_init_41 : decode cX10_init 41 = .ok (.newarray .int, 2) := by decide +kernel
theorem dX10_init_43 : decode cX10_init 43 = .ok (.putfield 23, 3) := by decide +kernel
theorem dX10_init_46 : decode cX10_init 46 = .ok (.aload_n 0, 1) := by decide +kernel
theorem dX10_init_47 : decode cX10_init 47 = .ok (.bipush 60, 2) := by decide +kernel
theorem dX10_init_49 : decode cX10_init 49 = .ok (.newarray .int, 2) := by decide +kernel
theorem dX10_init_51 : decode cX10_init 51 = .ok (.putfield 26, 3) := by decide +kernel
theorem dX10_init_54 : decode cX10_init 54 = .ok (.aload_n 0, 1) := by decide +kernel
theorem dX10_init_55 : decode cX10_init 55 = .ok (.bipush 12, 2) := by decide +kernel
theorem dX10_init_57 : decode cX10_init 57 = .ok (.newarray .int, 2) := by decide +kernel
theorem dX10_init_59 : decode cX10_init 59 = .ok (.putfield 29, 3) := by decide +kernel
theorem dX10_init_62 : decode cX10_init 62 = .ok (.aload_n 0, 1) := by decide +kernel
theorem dX10_init_63 : decode cX10_init 63 = .ok (.bipush 12, 2) := by decide +kernel
theorem dX10_init_65 : decode cX10_init 65 = .ok (.newarray .int, 2) := by decide +kernel
theorem dX10_init_67 : decode cX10_init 67 = .ok (.putfield 32, 3) := by decide +kernel
theorem dX10_init_70 : decode cX10_init 70 = .ok (.aload_n 0, 1) := by decide +kernel
theorem dX10_init_71 : decode cX10_init 71 = .ok (.sipush 6513, 3) := by decide +kernel
theorem dX10_init_74 : decode cX10_init 74 = .ok (.newarray .int, 2) := by decide +kernel
theorem dX10_init_76 : decode cX10_init 76 = .ok (.putfield 35, 3) := by decide +kernel
theorem dX10_init_79 : decode cX10_init 79 = .ok (.aload_n 0, 1) := by decide +kernel
theorem dX10_init_80 : decode cX10_init 80 = .ok (.bipush 12, 2) := by decide +kernel
theorem dX10_init_82 : decode cX10_init 82 = .ok (.newarray .int, 2) := by decide +kernel
theorem dX10_init_84 : decode cX10_init 84 = .ok (.putfield 38, 3) := by decide +kernel
theorem dX10_init_87 : decode cX10_init 87 = .ok (.aload_n 0, 1) := by decide +kernel
theorem dX10_init_88 : decode cX10_init 88 = .ok (.bipush 12, 2) := by decide +kernel
theorem dX10_init_90 : decode cX10_init 90 = .ok (.newarray .int, 2) := by decide +kernel
theorem dX10_init_92 : decode cX10_init 92 = .ok (.putfield 41, 3) := by decide +kernel
theorem dX10_init_95 : decode cX10_init 95 = .ok (.aload_n 0, 1) := by decide +kernel
theorem dX10_init_96 : decode cX10_init 96 = .ok (.bipush 60, 2) := by decide +kernel
theorem dX10_init_98 : decode cX10_init 98 = .ok (.newarray .int, 2) := by decide +kernel
theorem dX10_init_100 : decode cX10_init 100 = .ok (.putfield 44, 3) := by decide +kernel
theorem dX10_init_103 : decode cX10_init 103 = .ok (.aload_n 0, 1) := by decide +kernel
theorem dX10_init_104 : decode cX10_init 104 = .ok (.iconst 3, 1) := by decide +kernel
theorem dX10_init_105 : decode cX10_init 105 = .ok (.newarray .int, 2) := by decide +kernel
theorem dX10_init_107 : decode cX10_init 107 = .ok (.putfield 47, 3) := by decide +kernel
theorem dX10_init_110 : decode cX10_init 110 = .ok (.aload_n 0, 1) := by decide +kernel
theorem dX10_init_111 : decode cX10_init 111 = .ok (.bipush 60, 2) := by decide +kernel
theorem dX10_init_113 : decode cX10_init 113 = .ok (.newarray .int, 2) := by decide +kernel
theorem dX10_init_115 : decode cX10_init 115 = .ok (.putfield 50, 3) := by decide +kernel
theorem dX10_init_118 : decode cX10_init 118 = .ok (.aload_n 0, 1) := by decide +kernel
theorem dX10_init_119 : decode cX10_init 119 = .ok (.getfield 7, 3) := by decide +kernel
theorem dX10_init_122 : decode cX10_init 122 = .ok (.sipush 11353, 3) := by decide +kernel
theorem dX10_init_125 : decode cX10_init 125 = .ok (.bipush 100, 2) := by decide +kernel
theorem dX10_init_127 : decode cX10_init 127 = .ok (.iastore, 1) := by decide +kernel
theorem dX10_init_128 : decode cX10_init 128 = .ok (.aload_n 0, 1) := by decide +kernel
theorem dX10_init_129 : decode cX10_init 129 = .ok (.getfield 7, 3) := by decide +kernel
theorem dX10_init_132 : decode cX10_init 132 = .ok (.sipush 11354, 3) := by decide +kernel
theorem dX10_init_135 : decode cX10_init 135 = .ok (.bipush 100, 2) := by decide +kernel
theorem dX10_init_137 : decode cX10_init 137 = .ok (.iastore, 1) := by decide +kernel
theorem dX10_init_138 : decode cX10_init 138 = .ok (.aload_n 0, 1) := by decide +kernel
theorem dX10_init_139 : decode cX10_init 139 = .ok (.getfield 7, 3) := by decide +kernel
theorem dX10_init_142 : decode cX10_init 142 = .ok (.sipush 11355, 3) := by decide +kernel
theorem dX10_init_145 : decode cX10_init 145 = .ok (.bipush 100, 2) := by decide +kernel
theorem dX10_init_147 : decode cX10_init 147 = .ok (.iastore, 1) := by decide +kernel
theorem dX10_init_148 : decode cX10_init 148 = .ok (.return_, 1) := by decide +kernel
theorem dX10_in_0 : decode cX10_in 0 = .ok (.iload_n 0, 1) := by decide +kernel
theorem dX10_in_1 : decode cX10_in 1 = .ok (.iload_n 1, 1) := by decide +kernel
theorem dX10_in_2 : decode cX10_in 2 = .ok (.if_icmp .lt 12, 3) := by decide +kernel
theorem dX10_in_5 : decode cX10_in 5 = .ok (.iload_n 0, 1) := by decide +kernel
theorem dX10_in_6 : decode cX10_in 6 = .ok (.iload_n 2, 1) := by decide +kernel
theorem dX10_in_7 : decode cX10_in 7 = .ok (.if_icmp .gt 7, 3) := by decide +kernel
theorem dX10_in_10 : decode cX10_in 10 = .ok (.iconst 1, 1) := by decide +kernel
theorem dX10_in_11 : decode cX10_in 11 = .ok (.goto 4, 3) := by decide +kernel
theorem dX10_in_14 : decode cX10_in 14 = .ok (.iconst 0, 1) := by decide +kernel
theorem dX10_in_15 : decode cX10_in 15 = .ok (.ireturn, 1) := by decide +kernel
theorem dX10_w_0 : decode cX10_w 0 = .ok (.aload_n 0, 1) := by decide +kernel
theorem dX10_w_1 : decode cX10_w 1 = .ok (.getfield 7, 3) := by decide +kernel
theorem dX10_w_4 : decode cX10_w 4 = .ok (.iload_n 1, 1) := by decide +kernel
theorem dX10_w_5 : decode cX10_w 5 = .ok (.iaload, 1) := by decide +kernel
theorem dX10_w_6 : decode cX10_w 6 = .ok (.iload_n 2, 1) := by decide +kernel
theorem dX10_w_7 : decode cX10_w 7 = .ok (.if_icmp .eq 51, 3) := by decide +kernel
theorem dX10_w_10 : decode cX10_w 10 = .ok (.aload_n 0, 1) := by decide +kernel
theorem dX10_w_11 : decode cX10_w 11 = .ok (.getfield 14, 3) := by decide +kernel
theorem dX10_w_14 : decode cX10_w 14 = .ok (.aload_n 0, 1) := by decide +kernel
theorem dX10_w_15 : decode cX10_w 15 = .ok (.getfield 57, 3) := by decide +kernel
theorem dX10_w_18 : decode cX10_w 18 = .ok (.ldc 60, 2) := by decide +kernel
theorem dX10_w_20 : decode cX10_w 20 = .ok (.iand, 1) := by decide +kernel
theorem dX10_w_21 : decode cX10_w 21 = .ok (.iload_n 1, 1) := by decide +kernel
theorem dX10_w_22 : decode cX10_w 22 = .ok (.iastore, 1) := by decide +kernel
theorem dX10_w_23 : decode cX10_w 23 = .ok (.aload_n 0, 1) := by decide +kernel
theorem dX10_w_24 : decode cX10_w 24 = .ok (.getfield 17, 3) := by decide +kernel
theorem dX10_w_27 : decode cX10_w 27 = .ok (.aload_n 0, 1) := by decide +kernel
theorem dX10_w_28 : decode cX10_w 28 = .ok (.getfield 57, 3) := by decide +kernel
theorem dX10_w_31 : decode cX10_w 31 = .ok (.ldc 60, 2) := by decide +kernel
theorem dX10_w_33 : decode cX10_w 33 = .ok (.iand, 1) := by decide +kernel
theorem dX10_w_34 : decode cX10_w 34 = .ok (.aload_n 0, 1) := by decide +kernel
theorem dX10_w_35 : decode cX10_w 35 = .ok (.getfield 7, 3) := by decide +kernel
theorem dX10_w_38 : decode cX10_w 38 = .ok (.iload_n 1, 1) := by decide +kernel
theorem dX10_w_39 : decode cX10_w 39 = .ok (.iaload, 1) := by decide +kernel
theorem dX10_w_40 : decode cX10_w 40 = .ok (.iastore, 1) := by decide +kernel
theorem dX10_w_41 : decode cX10_w 41 = .ok (.aload_n 0, 1) := by decide +kernel
theorem dX10_w_42 : decode cX10_w 42 = .ok (.dup, 1) := by decide +kernel
theorem dX10_w_43 : decode cX10_w 43 = .ok (.getfield 57, 3) := by decide +kernel
theorem dX10_w_46 : decode cX10_w 46 = .ok (.iconst 1, 1) := by decide +kernel
theorem dX10_w_47 : decode cX10_w 47 = .ok (.iadd, 1) := by decide +kernel
theorem dX10_w_48 : decode cX10_w 48 = .ok (.putfield 57, 3) := by decide +kernel
theorem dX10_w_51 : decode cX10_w 51 = .ok (.aload_n 0, 1) := by decide +kernel
theorem dX10_w_52 : decode cX10_w 52 = .ok (.getfield 7, 3) := by decide +kernel
theorem dX10_w_55 : decode cX10_w 55 = .ok (.iload_n 1, 1) := by decide +kernel
theorem dX10_w_56 : decode cX10_w 56 = .ok (.iload_n 2, 1) := by decide +kernel
theorem dX10_w_57 : decode cX10_w 57 = .ok (.iastore, 1) := by decide +kernel
theorem dX10_w_58 : decode cX10_w 58 = .ok (.return_, 1) := by decide +kernel
theorem dX10_found_0 : decode cX10_found 0 = .ok (.aload_n 0, 1) := by decide +kernel
theorem dX10_found_1 : decode cX10_found 1 = .ok (.iload_n 1, 1) := by decide +kernel
theorem dX10_found_2 : decode cX10_found 2 = .ok (.putfield 61, 3) := by decide +kernel
theorem dX10_found_5 : decode cX10_found 5 = .ok (.aload_n 0, 1) := by decide +kernel
theorem dX10_found_6 : decode cX10_found 6 = .ok (.dup, 1) := by decide +kernel
theorem dX10_found_7 : decode cX10_found 7 = .ok (.getfield 64, 3) := by decide +kernel
theorem dX10_found_10 : decode cX10_found 10 = .ok (.iconst 1, 1) := by decide +kernel
theorem dX10_found_11 : decode cX10_found 11 = .ok (.iadd, 1) := by decide +kernel
theorem dX10_found_12 : decode cX10_found 12 = .ok (.putfield 64, 3) := by decide +kernel
theorem dX10_found_15 : decode cX10_found 15 = .ok (.bipush (-20), 2) := by decide +kernel
theorem dX10_found_17 : decode cX10_found 17 = .ok (.iload_n 1, 1) := by decide +kernel
theorem dX10_found_18 : decode cX10_found 18 = .ok (.isub, 1) := by decide +kernel
theorem dX10_found_19 : decode cX10_found 19 = .ok (.ireturn, 1) := by decide +kernel
theorem dX10_of_0 : decode cX10_of 0 = .ok (.aload_n 0, 1) := by decide +kernel
theorem dX10_of_1 : decode cX10_of 1 = .ok (.getfield 7, 3) := by decide +kernel
theorem dX10_of_4 : decode cX10_of 4 = .ok (.bipush 104, 2) := by decide +kernel
theorem dX10_of_6 : decode cX10_of 6 = .ok (.iload_n 1, 1) := by decide +kernel
theorem dX10_of_7 : decode cX10_of 7 = .ok (.imul, 1) := by decide +kernel
theorem dX10_of_8 : decode cX10_of 8 = .ok (.iload_n 2, 1) := by decide +kernel
theorem dX10_of_9 : decode cX10_of 9 = .ok (.iadd, 1) := by decide +kernel
theorem dX10_of_10 : decode cX10_of 10 = .ok (.iaload, 1) := by decide +kernel
theorem dX10_of_11 : decode cX10_of 11 = .ok (.ireturn, 1) := by decide +kernel
theorem dX10_let_0 : decode cX10_let 0 = .ok (.aload_n 0, 1) := by decide +kernel
theorem dX10_let_1 : decode cX10_let 1 = .ok (.bipush 104, 2) := by decide +kernel
theorem dX10_let_3 : decode cX10_let 3 = .ok (.iload_n 1, 1) := by decide +kernel
theorem dX10_let_4 : decode cX10_let 4 = .ok (.imul, 1) := by decide +kernel
theorem dX10_let_5 : decode cX10_let 5 = .ok (.iload_n 2, 1) := by decide +kernel
theorem dX10_let_6 : decode cX10_let 6 = .ok (.iadd, 1) := by decide +kernel
theorem dX10_let_7 : decode cX10_let 7 = .ok (.iload_n 3, 1) := by decide +kernel
theorem dX10_let_8 : decode cX10_let 8 = .ok (.invokevirtual 67, 3) := by decide +kernel
theorem dX10_let_11 : decode cX10_let 11 = .ok (.return_, 1) := by decide +kernel
theorem dX10_isPlace_0 : decode cX10_isPlace 0 = .ok (.iload_n 0, 1) := by decide +kernel
theorem dX10_isPlace_1 : decode cX10_isPlace 1 = .ok (.iconst 0, 1) := by decide +kernel
theorem dX10_isPlace_2 : decode cX10_isPlace 2 = .ok (.bipush 59, 2) := by decide +kernel
theorem dX10_isPlace_4 : decode cX10_isPlace 4 = .ok (.invokestatic 71, 3) := by decide +kernel
theorem dX10_isPlace_7 : decode cX10_isPlace 7 = .ok (.ireturn, 1) := by decide +kernel
theorem dX10_isThere_0 : decode cX10_isThere 0 = .ok (.aload_n 0, 1) := by decide +kernel
theorem dX10_isThere_1 : decode cX10_isThere 1 = .ok (.iload_n 1, 1) := by decide +kernel
theorem dX10_isThere_2 : decode cX10_isThere 2 = .ok (.iconst 0, 1) := by decide +kernel
theorem dX10_isThere_3 : decode cX10_isThere 3 = .ok (.invokevirtual 75, 3) := by decide +kernel
theorem dX10_isThere_6 : decode cX10_isThere 6 = .ok (.ifCond .le 7, 3) := by decide +kernel
theorem dX10_isThere_9 : decode cX10_isThere 9 = .ok (.iconst 1, 1) := by decide +kernel
theorem dX10_isThere_10 : decode cX10_isThere 10 = .ok (.goto 4, 3) := by decide +kernel
theorem dX10_isThere_13 : decode cX10_isThere 13 = .ok (.iconst 0, 1) := by decide +kernel
theorem dX10_isThere_14 : decode cX10_isThere 14 = .ok (.ireturn, 1) := by decide +kernel
theorem dX10_kindOf_0 : decode cX10_kindOf 0 = .ok (.aload_n 0, 1) := by decide +kernel
theorem dX10_kindOf_1 : decode cX10_kindOf 1 = .ok (.iload_n 1, 1) := by decide +kernel
theorem dX10_kindOf_2 : decode cX10_kindOf 2 = .ok (.iconst 0, 1) := by decide +kernel
theorem dX10_kindOf_3 : decode cX10_kindOf 3 = .ok (.invokevirtual 75, 3) := by decide +kernel
theorem dX10_kindOf_6 : decode cX10_kindOf 6 = .ok (.iconst 1, 1) := by decide +kernel
theorem dX10_kindOf_7 : decode cX10_kindOf 7 = .ok (.isub, 1) := by decide +kernel
theorem dX10_kindOf_8 : decode cX10_kindOf 8 = .ok (.ireturn, 1) := by decide +kernel
theorem dX10_touch_0 : decode cX10_touch 0 = .ok (.aload_n 0, 1) := by decide +kernel
theorem dX10_touch_1 : decode cX10_touch 1 = .ok (.getfield 26, 3) := by decide +kernel
theorem dX10_touch_4 : decode cX10_touch 4 = .ok (.iload_n 1, 1) := by decide +kernel
theorem dX10_touch_5 : decode cX10_touch 5 = .ok (.dup2, 1) := by decide +kernel
theorem dX10_touch_6 : decode cX10_touch 6 = .ok (.iaload, 1) := by decide +kernel
theorem dX10_touch_7 : decode cX10_touch 7 = .ok (.iconst 1, 1) := by decide +kernel
theorem dX10_touch_8 : decode cX10_touch 8 = .ok (.aload_n 0, 1) := by decide +kernel
theorem dX10_touch_9 : decode cX10_touch 9 = .ok (.iload_n 1, 1) := by decide +kernel
theorem dX10_touch_10 : decode cX10_touch 10 = .ok (.bipush 7, 2) := by decide +kernel
theorem dX10_touch_12 : decode cX10_touch 12 = .ok (.invokevirtual 75, 3) := by decide +kernel
theorem dX10_touch_15 : decode cX10_touch 15 = .ok (.iadd, 1) := by decide +kernel
theorem dX10_touch_16 : decode cX10_touch 16 = .ok (.iadd, 1) := by decide +kernel
theorem dX10_touch_17 : decode cX10_touch 17 = .ok (.iastore, 1) := by decide +kernel
theorem dX10_touch_18 : decode cX10_touch 18 = .ok (.return_, 1) := by decide +kernel
theorem dX10_loadsIn_0 : decode cX10_loadsIn 0 = .ok (.iconst 0, 1) := by decide +kernel
theorem dX10_loadsIn_1 : decode cX10_loadsIn 1 = .ok (.istore_n 2, 1) := by decide +kernel
theorem dX10_loadsIn_2 : decode cX10_loadsIn 2 = .ok (.iconst 0, 1) := by decide +kernel
theorem dX10_loadsIn_3 : decode cX10_loadsIn 3 = .ok (.istore_n 3, 1) := by decide +kernel
theorem dX10_loadsIn_4 : decode cX10_loadsIn 4 = .ok (.iload_n 3, 1) := by decide +kernel
theorem dX10_loadsIn_5 : decode cX10_loadsIn 5 = .ok (.aload_n 0, 1) := by decide +kernel
theorem dX10_loadsIn_6 : decode cX10_loadsIn 6 = .ok (.getfield 7, 3) := by decide +kernel
theorem dX10_loadsIn_9 : decode cX10_loadsIn 9 = .ok (.sipush 11345, 3) := by decide +kernel
theorem dX10_loadsIn_12 : decode cX10_loadsIn 12 = .ok (.iaload, 1) := by decide +kernel
theorem dX10_loadsIn_13 : decode cX10_loadsIn 13 = .ok (.if_icmp .ge 35, 3) := by decide +kernel
theorem dX10_loadsIn_16 : decode cX10_loadsIn 16 = .ok (.iload_n 2, 1) := by decide +kernel
theorem dX10_loadsIn_17 : decode cX10_loadsIn 17 = .ok (.aload_n 0, 1) := by decide +kernel
theorem dX10_loadsIn_18 : decode cX10_loadsIn 18 = .ok (.getfield 7, 3) := by decide +kernel
theorem dX10_loadsIn_21 : decode cX10_loadsIn 21 = .ok (.sipush 8844, 3) := by decide +kernel
theorem dX10_loadsIn_24 : decode cX10_loadsIn 24 = .ok (.iconst 5, 1) := by decide +kernel
theorem dX10_loadsIn_25 : decode cX10_loadsIn 25 = .ok (.iload_n 3, 1) := by decide +kernel
theorem dX10_loadsIn_26 : decode cX10_loadsIn 26 = .ok (.imul, 1) := by decide +kernel
theorem dX10_loadsIn_27 : decode cX10_loadsIn 27 = .ok (.iadd, 1) := by decide +kernel
theorem dX10_loadsIn_28 : decode cX10_loadsIn 28 = .ok (.iconst 3, 1) := by decide +kernel
theorem dX10_loadsIn_29 : decode cX10_loadsIn 29 = .ok (.iadd, 1) := by decide +kernel
theorem dX10_loadsIn_30 : decode cX10_loadsIn 30 = .ok (.iaload, 1) := by decide +kernel
theorem dX10_loadsIn_31 : decode cX10_loadsIn 31 = .ok (.iload_n 1, 1) := by decide +kernel
theorem dX10_loadsIn_32 : decode cX10_loadsIn 32 = .ok (.if_icmp .ne 7, 3) := by decide +kernel
theorem dX10_loadsIn_35 : decode cX10_loadsIn 35 = .ok (.iconst 1, 1) := by decide +kernel
theorem dX10_loadsIn_36 : decode cX10_loadsIn 36 = .ok (.goto 4, 3) := by decide +kernel
theorem dX10_loadsIn_39 : decode cX10_loadsIn 39 = .ok (.iconst 0, 1) := by decide +kernel
theorem dX10_loadsIn_40 : decode cX10_loadsIn 40 = .ok (.iadd, 1) := by decide +kernel
theorem dX10_loadsIn_41 : decode cX10_loadsIn 41 = .ok (.istore_n 2, 1) := by decide +kernel
theorem dX10_loadsIn_42 : decode cX10_loadsIn 42 = .ok (.iinc 3 1, 3) := by decide +kernel
theorem dX10_loadsIn_45 : decode cX10_loadsIn 45 = .ok (.goto (-41), 3) := by decide +kernel
theorem dX10_loadsIn_48 : decode cX10_loadsIn 48 = .ok (.iload_n 2, 1) := by decide +kernel
theorem dX10_loadsIn_49 : decode cX10_loadsIn 49 = .ok (.ireturn, 1) := by decide +kernel
theorem dX10_creditOf_0 : decode cX10_creditOf 0 = .ok (.iconst 0, 1) := by decide +kernel
theorem dX10_creditOf_1 : decode cX10_creditOf 1 = .ok (.istore_n 2, 1) := by decide +kernel
theorem dX10_creditOf_2 : decode cX10_creditOf 2 = .ok (.iconst 0, 1) := by decide +kernel
theorem dX10_creditOf_3 : decode cX10_creditOf 3 = .ok (.istore_n 3, 1) := by decide +kernel
theorem dX10_creditOf_4 : decode cX10_creditOf 4 = .ok (.iload_n 3, 1) := by decide +kernel
theorem dX10_creditOf_5 : decode cX10_creditOf 5 = .ok (.bipush 12, 2) := by decide +kernel
theorem dX10_creditOf_7 : decode cX10_creditOf 7 = .ok (.if_icmp .ge 34, 3) := by decide +kernel
theorem dX10_creditOf_10 : decode cX10_creditOf 10 = .ok (.iload_n 2, 1) := by decide +kernel
theorem dX10_creditOf_11 : decode cX10_creditOf 11 = .ok (.aload_n 0, 1) := by decide +kernel
theorem dX10_creditOf_12 : decode cX10_creditOf 12 = .ok (.iload_n 1, 1) := by decide +kernel
theorem dX10_creditOf_13 : decode cX10_creditOf 13 = .ok (.bipush 14, 2) := by decide +kernel
theorem dX10_creditOf_15 : decode cX10_creditOf 15 = .ok (.iload_n 3, 1) := by decide +kernel
theorem dX10_creditOf_16 : decode cX10_creditOf 16 = .ok (.iadd, 1) := by decide +kernel
theorem dX10_creditOf_17 : decode cX10_creditOf 17 = .ok (.invokevirtual 75, 3) := by decide +kernel
theorem dX10_creditOf_20 : decode cX10_creditOf 20 = .ok (.aload_n 0, 1) := by decide +kernel
theorem dX10_creditOf_21 : decode cX10_creditOf 21 = .ok (.getfield 7, 3) := by decide +kernel
theorem dX10_creditOf_24 : decode cX10_creditOf 24 = .ok (.sipush 8720, 3) := by decide +kernel
theorem dX10_creditOf_27 : decode cX10_creditOf 27 = .ok (.iconst 2, 1) := by decide +kernel
theorem dX10_creditOf_28 : decode cX10_creditOf 28 = .ok (.iload_n 3, 1) := by decide +kernel
theorem dX10_creditOf_29 : decode cX10_creditOf 29 = .ok (.imul, 1) := by decide +kernel
theorem dX10_creditOf_30 : decode cX10_creditOf 30 = .ok (.iadd, 1) := by decide +kernel
theorem dX10_creditOf_31 : decode cX10_creditOf 31 = .ok (.iaload, 1) := by decide +kernel
theorem dX10_creditOf_32 : decode cX10_creditOf 32 = .ok (.imul, 1) := by decide +kernel
theorem dX10_creditOf_33 : decode cX10_creditOf 33 = .ok (.iadd, 1) := by decide +kernel
theorem dX10_creditOf_34 : decode cX10_creditOf 34 = .ok (.istore_n 2, 1) := by decide +kernel
theorem dX10_creditOf_35 : decode cX10_creditOf 35 = .ok (.iinc 3 1, 3) := by decide +kernel
theorem dX10_creditOf_38 : decode cX10_creditOf 38 = .ok (.goto (-34), 3) := by decide +kernel
theorem dX10_creditOf_41 : decode cX10_creditOf 41 = .ok (.iload_n 2, 1) := by decide +kernel
theorem dX10_creditOf_42 : decode cX10_creditOf 42 = .ok (.ireturn, 1) := by decide +kernel
theorem dX10_roomOf_0 : decode cX10_roomOf 0 = .ok (.iconst 0, 1) := by decide +kernel
theorem dX10_roomOf_1 : decode cX10_roomOf 1 = .ok (.istore_n 2, 1) := by decide +kernel
theorem dX10_roomOf_2 : decode cX10_roomOf 2 = .ok (.iconst 0, 1) := by decide +kernel
theorem dX10_roomOf_3 : decode cX10_roomOf 3 = .ok (.istore_n 3, 1) := by decide +kernel
theorem dX10_roomOf_4 : decode cX10_roomOf 4 = .ok (.iload_n 3, 1) := by decide +kernel
theorem dX10_roomOf_5 : decode cX10_roomOf 5 = .ok (.aload_n 0, 1) := by decide +kernel
theorem dX10_roomOf_6 : decode cX10_roomOf 6 = .ok (.iload_n 1, 1) := by decide +kernel
theorem dX10_roomOf_7 : decode cX10_roomOf 7 = .ok (.bipush 7, 2) := by decide +kernel
theorem dX10_roomOf_9 : decode cX10_roomOf 9 = .ok (.invokevirtual 75, 3) := by decide +kernel
theorem dX10_roomOf_12 : decode cX10_roomOf 12 = .ok (.if_icmp .ge 21, 3) := by decide +kernel
theorem dX10_roomOf_15 : decode cX10_roomOf 15 = .ok (.iload_n 2, 1) := by decide +kernel
theorem dX10_roomOf_16 : decode cX10_roomOf 16 = .ok (.aload_n 0, 1) := by decide +kernel
theorem dX10_roomOf_17 : decode cX10_roomOf 17 = .ok (.iload_n 1, 1) := by decide +kernel
theorem dX10_roomOf_18 : decode cX10_roomOf 18 = .ok (.bipush 8, 2) := by decide +kernel
theorem dX10_roomOf_20 : decode cX10_roomOf 20 = .ok (.iload_n 3, 1) := by decide +kernel
theorem dX10_roomOf_21 : decode cX10_roomOf 21 = .ok (.iadd, 1) := by decide +kernel
theorem dX10_roomOf_22 : decode cX10_roomOf 22 = .ok (.invokevirtual 75, 3) := by decide +kernel
theorem dX10_roomOf_25 : decode cX10_roomOf 25 = .ok (.iadd, 1) := by decide +kernel
theorem dX10_roomOf_26 : decode cX10_roomOf 26 = .ok (.istore_n 2, 1) := by decide +kernel
theorem dX10_roomOf_27 : decode cX10_roomOf 27 = .ok (.iinc 3 1, 3) := by decide +kernel
theorem dX10_roomOf_30 : decode cX10_roomOf 30 = .ok (.goto (-26), 3) := by decide +kernel
theorem dX10_roomOf_33 : decode cX10_roomOf 33 = .ok (.aload_n 0, 1) := by decide +kernel
theorem dX10_roomOf_34 : decode cX10_roomOf 34 = .ok (.iload_n 1, 1) := by decide +kernel
theorem dX10_roomOf_35 : decode cX10_roomOf 35 = .ok (.invokevirtual 79, 3) := by decide +kernel
theorem dX10_roomOf_38 : decode cX10_roomOf 38 = .ok (.iconst 4, 1) := by decide +kernel
theorem dX10_roomOf_39 : decode cX10_roomOf 39 = .ok (.if_icmp .ne 7, 3) := by decide +kernel
theorem dX10_roomOf_42 : decode cX10_roomOf 42 = .ok (.iload_n 2, 1) := by decide +kernel
theorem dX10_roomOf_43 : decode cX10_roomOf 43 = .ok (.goto 9, 3) := by decide +kernel
theorem dX10_roomOf_46 : decode cX10_roomOf 46 = .ok (.aload_n 0, 1) := by decide +kernel
theorem dX10_roomOf_47 : decode cX10_roomOf 47 = .ok (.iload_n 1, 1) := by decide +kernel
theorem dX10_roomOf_48 : decode cX10_roomOf 48 = .ok (.iconst 1, 1) := by decide +kernel
theorem dX10_roomOf_49 : decode cX10_roomOf 49 = .ok (.invokevirtual 75, 3) := by decide +kernel
theorem dX10_roomOf_52 : decode cX10_roomOf 52 = .ok (.ireturn, 1) := by decide +kernel
theorem dX10_note_0 : decode cX10_note 0 = .ok (.aload_n 0, 1) := by decide +kernel
theorem dX10_note_1 : decode cX10_note 1 = .ok (.getfield 23, 3) := by decide +kernel
theorem dX10_note_4 : decode cX10_note 4 = .ok (.aload_n 0, 1) := by decide +kernel
theorem dX10_note_5 : decode cX10_note 5 = .ok (.getfield 83, 3) := by decide +kernel
theorem dX10_note_8 : decode cX10_note 8 = .ok (.bipush 30, 2) := by decide +kernel
theorem dX10_note_10 : decode cX10_note 10 = .ok (.irem, 1) := by decide +kernel
theorem dX10_note_11 : decode cX10_note 11 = .ok (.bipush 10, 2) := by decide +kernel
theorem dX10_note_13 : decode cX10_note 13 = .ok (.iload_n 1, 1) := by decide +kernel
theorem dX10_note_14 : decode cX10_note 14 = .ok (.imul, 1) := by decide +kernel
theorem dX10_note_15 : decode cX10_note 15 = .ok (.iload_n 2, 1) := by decide +kernel
theorem dX10_note_16 : decode cX10_note 16 = .ok (.iadd, 1) := by decide +kernel
theorem dX10_note_17 : decode cX10_note 17 = .ok (.iastore, 1) := by decide +kernel
theorem dX10_note_18 : decode cX10_note 18 = .ok (.aload_n 0, 1) := by decide +kernel
theorem dX10_note_19 : decode cX10_note 19 = .ok (.dup, 1) := by decide +kernel
theorem dX10_note_20 : decode cX10_note 20 = .ok (.getfield 83, 3) := by decide +kernel
theorem dX10_note_23 : decode cX10_note 23 = .ok (.iconst 1, 1) := by decide +kernel
theorem dX10_note_24 : decode cX10_note 24 = .ok (.iadd, 1) := by decide +kernel
theorem dX10_note_25 : decode cX10_note 25 = .ok (.putfield 83, 3) := by decide +kernel
theorem dX10_note_28 : decode cX10_note 28 = .ok (.return_, 1) := by decide +kernel
theorem dX10_plain_0 : decode cX10_plain 0 = .ok (.aload_n 0, 1) := by decide +kernel
theorem dX10_plain_1 : decode cX10_plain 1 = .ok (.iconst 5, 1) := by decide +kernel
theorem dX10_plain_2 : decode cX10_plain 2 = .ok (.iload_n 1, 1) := by decide +kernel
theorem dX10_plain_3 : decode cX10_plain 3 = .ok (.invokevirtual 86, 3) := by decide +kernel
theorem dX10_plain_6 : decode cX10_plain 6 = .ok (.iload_n 1, 1) := by decide +kernel
theorem dX10_plain_7 : decode cX10_plain 7 = .ok (.iconst 2, 1) := by decide +kernel
theorem dX10_plain_8 : decode cX10_plain 8 = .ok (.if_icmp .ne 7, 3) := by decide +kernel
theorem dX10_plain_11 : decode cX10_plain 11 = .ok (.iconst 1, 1) := by decide +kernel
theorem dX10_plain_12 : decode cX10_plain 12 = .ok (.goto 4, 3) := by decide +kernel
theorem dX10_plain_15 : decode cX10_plain 15 = .ok (.iconst 0, 1) := by decide +kernel
theorem dX10_plain_16 : decode cX10_plain 16 = .ok (.ireturn, 1) := by decide +kernel
theorem dX10_washers_0 : decode cX10_washers 0 = .ok (.aload_n 0, 1) := by decide +kernel
theorem dX10_washers_1 : decode cX10_washers 1 = .ok (.iconst 0, 1) := by decide +kernel
theorem dX10_washers_2 : decode cX10_washers 2 = .ok (.iload_n 1, 1) := by decide +kernel
theorem dX10_washers_3 : decode cX10_washers 3 = .ok (.invokevirtual 86, 3) := by decide +kernel
theorem dX10_washers_6 : decode cX10_washers 6 = .ok (.iload_n 1, 1) := by decide +kernel
theorem dX10_washers_7 : decode cX10_washers 7 = .ok (.ifCond .ne 18, 3) := by decide +kernel
theorem dX10_washers_10 : decode cX10_washers 10 = .ok (.iload_n 2, 1) := by decide +kernel
theorem dX10_washers_11 : decode cX10_washers 11 = .ok (.ifCond .ne 8, 3) := by decide +kernel
theorem dX10_washers_14 : decode cX10_washers 14 = .ok (.bipush 10, 2) := by decide +kernel
theorem dX10_washers_16 : decode cX10_washers 16 = .ok (.goto 8, 3) := by decide +kernel
theorem dX10_washers_19 : decode cX10_washers 19 = .ok (.aload_n 0, 1) := by decide +kernel
theorem dX10_washers_20 : decode cX10_washers 20 = .ok (.iconst 0, 1) := by decide +kernel
theorem dX10_washers_21 : decode cX10_washers 21 = .ok (.invokevirtual 89, 3) := by decide +kernel
theorem dX10_washers_24 : decode cX10_washers 24 = .ok (.ireturn, 1) := by decide +kernel
theorem dX10_washers_25 : decode cX10_washers 25 = .ok (.iload_n 1, 1) := by decide +kernel
theorem dX10_washers_26 : decode cX10_washers 26 = .ok (.iconst 1, 1) := by decide +kernel
theorem dX10_washers_27 : decode cX10_washers 27 = .ok (.if_icmp .ne 18, 3) := by decide +kernel
theorem dX10_washers_30 : decode cX10_washers 30 = .ok (.iload_n 2, 1) := by decide +kernel
theorem dX10_washers_31 : decode cX10_washers 31 = .ok (.iconst 1, 1) := by decide +kernel
theorem dX10_washers_32 : decode cX10_washers 32 = .ok (.if_icmp .ne 7, 3) := by decide +kernel
theorem dX10_washers_35 : decode cX10_washers 35 = .ok (.iconst 4, 1) := by decide +kernel
theorem dX10_washers_36 : decode cX10_washers 36 = .ok (.goto 8, 3) := by decide +kernel
theorem dX10_washers_39 : decode cX10_washers 39 = .ok (.aload_n 0, 1) := by decide +kernel
theorem dX10_washers_40 : decode cX10_washers 40 = .ok (.iconst 1, 1) := by decide +kernel
theorem dX10_washers_41 : decode cX10_washers 41 = .ok (.invokevirtual 89, 3) := by decide +kernel
theorem dX10_washers_44 : decode cX10_washers 44 = .ok (.ireturn, 1) := by decide +kernel
theorem dX10_washers_45 : decode cX10_washers 45 = .ok (.iload_n 1, 1) := by decide +kernel
theorem dX10_washers_46 : decode cX10_washers 46 = .ok (.iconst 2, 1) := by decide +kernel
theorem dX10_washers_47 : decode cX10_washers 47 = .ok (.if_icmp .ne 27, 3) := by decide +kernel
theorem dX10_washers_50 : decode cX10_washers 50 = .ok (.aload_n 0, 1) := by decide +kernel
theorem dX10_washers_51 : decode cX10_washers 51 = .ok (.iconst 2, 1) := by decide +kernel
theorem dX10_washers_52 : decode cX10_washers 52 = .ok (.invokevirtual 89, 3) := by decide +kernel
theorem dX10_washers_55 : decode cX10_washers 55 = .ok (.iload_n 2, 1) := by decide +kernel
theorem dX10_washers_56 : decode cX10_washers 56 = .ok (.iconst 1, 1) := by decide +kernel
theorem dX10_washers_57 : decode cX10_washers 57 = .ok (.if_icmp .eq 8, 3) := by decide +kernel
theorem dX10_washers_60 : decode cX10_washers 60 = .ok (.iload_n 2, 1) := by decide +kernel
theorem dX10_washers_61 : decode cX10_washers 61 = .ok (.iconst 3, 1) := by decide +kernel
theorem dX10_washers_62 : decode cX10_washers 62 = .ok (.if_icmp .ne 7, 3) := by decide +kernel
theorem dX10_washers_65 : decode cX10_washers 65 = .ok (.iconst 2, 1) := by decide +kernel
theorem dX10_washers_66 : decode cX10_washers 66 = .ok (.goto 4, 3) := by decide +kernel
theorem dX10_washers_69 : decode cX10_washers 69 = .ok (.iconst 0, 1) := by decide +kernel
theorem dX10_washers_70 : decode cX10_washers 70 = .ok (.iadd, 1) := by decide +kernel
theorem dX10_washers_71 : decode cX10_washers 71 = .ok (.goto 4, 3) := by decide +kernel
theorem dX10_washers_74 : decode cX10_washers 74 = .ok (.iconst 2, 1) := by decide +kernel
theorem dX10_washers_75 : decode cX10_washers 75 = .ok (.ireturn, 1) := by decide +kernel
theorem dX10_dryers_0 : decode cX10_dryers 0 = .ok (.aload_n 0, 1) := by decide +kernel
theorem dX10_dryers_1 : decode cX10_dryers 1 = .ok (.iconst 2, 1) := by decide +kernel
theorem dX10_dryers_2 : decode cX10_dryers 2 = .ok (.iload_n 1, 1) := by decide +kernel
theorem dX10_dryers_3 : decode cX10_dryers 3 = .ok (.invokevirtual 86, 3) := by decide +kernel
theorem dX10_dryers_6 : decode cX10_dryers 6 = .ok (.iload_n 1, 1) := by decide +kernel
theorem dX10_dryers_7 : decode cX10_dryers 7 = .ok (.iconst 1, 1) := by decide +kernel
theorem dX10_dryers_8 : decode cX10_dryers 8 = .ok (.if_icmp .ne 28, 3) := by decide +kernel
theorem dX10_dryers_11 : decode cX10_dryers 11 = .ok (.iload_n 2, 1) := by decide +kernel
theorem dX10_dryers_12 : decode cX10_dryers 12 = .ok (.iconst 2, 1) := by decide +kernel
theorem dX10_dryers_13 : decode cX10_dryers 13 = .ok (.if_icmp .ne 8, 3) := by decide +kernel
theorem dX10_dryers_16 : decode cX10_dryers 16 = .ok (.bipush 9, 2) := by decide +kernel
theorem dX10_dryers_18 : decode cX10_dryers 18 = .ok (.goto 17, 3) := by decide +kernel
theorem dX10_dryers_21 : decode cX10_dryers 21 = .ok (.iload_n 2, 1) := by decide +kernel
theorem dX10_dryers_22 : decode cX10_dryers 22 = .ok (.iconst 1, 1) := by decide +kernel
theorem dX10_dryers_23 : decode cX10_dryers 23 = .ok (.if_icmp .ne 7, 3) := by decide +kernel
theorem dX10_dryers_26 : decode cX10_dryers 26 = .ok (.iconst 5, 1) := by decide +kernel
theorem dX10_dryers_27 : decode cX10_dryers 27 = .ok (.goto 8, 3) := by decide +kernel
theorem dX10_dryers_30 : decode cX10_dryers 30 = .ok (.aload_n 0, 1) := by decide +kernel
theorem dX10_dryers_31 : decode cX10_dryers 31 = .ok (.iconst 1, 1) := by decide +kernel
theorem dX10_dryers_32 : decode cX10_dryers 32 = .ok (.invokevirtual 89, 3) := by decide +kernel
theorem dX10_dryers_35 : decode cX10_dryers 35 = .ok (.ireturn, 1) := by decide +kernel
theorem dX10_dryers_36 : decode cX10_dryers 36 = .ok (.iload_n 1, 1) := by decide +kernel
theorem dX10_dryers_37 : decode cX10_dryers 37 = .ok (.iconst 2, 1) := by decide +kernel
theorem dX10_dryers_38 : decode cX10_dryers 38 = .ok (.if_icmp .ne 22, 3) := by decide +kernel
theorem dX10_dryers_41 : decode cX10_dryers 41 = .ok (.aload_n 0, 1) := by decide +kernel
theorem dX10_dryers_42 : decode cX10_dryers 42 = .ok (.iconst 2, 1) := by decide +kernel
theorem dX10_dryers_43 : decode cX10_dryers 43 = .ok (.invokevirtual 89, 3) := by decide +kernel
theorem dX10_dryers_46 : decode cX10_dryers 46 = .ok (.iload_n 2, 1) := by decide +kernel
theorem dX10_dryers_47 : decode cX10_dryers 47 = .ok (.iconst 1, 1) := by decide +kernel
theorem dX10_dryers_48 : decode cX10_dryers 48 = .ok (.if_icmp .ne 7, 3) := by decide +kernel
theorem dX10_dryers_51 : decode cX10_dryers 51 = .ok (.iconst 3, 1) := by decide +kernel
theorem dX10_dryers_52 : decode cX10_dryers 52 = .ok (.goto 4, 3) := by decide +kernel
theorem dX10_dryers_55 : decode cX10_dryers 55 = .ok (.iconst 0, 1) := by decide +kernel
theorem dX10_dryers_56 : decode cX10_dryers 56 = .ok (.iadd, 1) := by decide +kernel
theorem dX10_dryers_57 : decode cX10_dryers 57 = .ok (.goto 4, 3) := by decide +kernel
theorem dX10_dryers_60 : decode cX10_dryers 60 = .ok (.iconst 1, 1) := by decide +kernel
theorem dX10_dryers_61 : decode cX10_dryers 61 = .ok (.ireturn, 1) := by decide +kernel
theorem dX10_wishOf_0 : decode cX10_wishOf 0 = .ok (.aload_n 0, 1) := by decide +kernel
theorem dX10_wishOf_1 : decode cX10_wishOf 1 = .ok (.iload_n 1, 1) := by decide +kernel
theorem dX10_wishOf_2 : decode cX10_wishOf 2 = .ok (.invokevirtual 79, 3) := by decide +kernel
theorem dX10_wishOf_5 : decode cX10_wishOf 5 = .ok (.istore 4, 2) := by decide +kernel
theorem dX10_wishOf_7 : decode cX10_wishOf 7 = .ok (.aload_n 0, 1) := by decide +kernel
theorem dX10_wishOf_8 : decode cX10_wishOf 8 = .ok (.iload_n 1, 1) := by decide +kernel
theorem dX10_wishOf_9 : decode cX10_wishOf 9 = .ok (.bipush 7, 2) := by decide +kernel
theorem dX10_wishOf_11 : decode cX10_wishOf 11 = .ok (.invokevirtual 75, 3) := by decide +kernel
theorem dX10_wishOf_14 : decode cX10_wishOf 14 = .ok (.istore 5, 2) := by decide +kernel
theorem dX10_wishOf_16 : decode cX10_wishOf 16 = .ok (.iload 4, 2) := by decide +kernel
theorem dX10_wishOf_18 : decode cX10_wishOf 18 = .ok (.tableswitch 157 0 3 #[30, 37, 91, 110], 30) := by decide +kernel
theorem dX10_wishOf_48 : decode cX10_wishOf 48 = .ok (.aload_n 0, 1) := by decide +kernel
theorem dX10_wishOf_49 : decode cX10_wishOf 49 = .ok (.iload_n 2, 1) := by decide +kernel
theorem dX10_wishOf_50 : decode cX10_wishOf 50 = .ok (.iload_n 3, 1) := by decide +kernel
theorem dX10_wishOf_51 : decode cX10_wishOf 51 = .ok (.invokevirtual 92, 3) := by decide +kernel
theorem dX10_wishOf_54 : decode cX10_wishOf 54 = .ok (.ireturn, 1) := by decide +kernel
theorem dX10_wishOf_55 : decode cX10_wishOf 55 = .ok (.iload_n 2, 1) := by decide +kernel
theorem dX10_wishOf_56 : decode cX10_wishOf 56 = .ok (.ifCond .ne 10, 3) := by decide +kernel
theorem dX10_wishOf_59 : decode cX10_wishOf 59 = .ok (.aload_n 0, 1) := by decide +kernel
theorem dX10_wishOf_60 : decode cX10_wishOf 60 = .ok (.iconst 0, 1) := by decide +kernel
theorem dX10_wishOf_61 : decode cX10_wishOf 61 = .ok (.iload_n 3, 1) := by decide +kernel
theorem dX10_wishOf_62 : decode cX10_wishOf 62 = .ok (.invokevirtual 92, 3) := by decide +kernel
theorem dX10_wishOf_65 : decode cX10_wishOf 65 = .ok (.ireturn, 1) := by decide +kernel
theorem dX10_wishOf_66 : decode cX10_wishOf 66 = .ok (.aload_n 0, 1) := by decide +kernel
theorem dX10_wishOf_67 : decode cX10_wishOf 67 = .ok (.iconst 1, 1) := by decide +kernel
theorem dX10_wishOf_68 : decode cX10_wishOf 68 = .ok (.iload_n 2, 1) := by decide +kernel
theorem dX10_wishOf_69 : decode cX10_wishOf 69 = .ok (.invokevirtual 86, 3) := by decide +kernel
theorem dX10_wishOf_72 : decode cX10_wishOf 72 = .ok (.aload_n 0, 1) := by decide +kernel
theorem dX10_wishOf_73 : decode cX10_wishOf 73 = .ok (.iload_n 2, 1) := by decide +kernel
theorem dX10_wishOf_74 : decode cX10_wishOf 74 = .ok (.iload_n 3, 1) := by decide +kernel
theorem dX10_wishOf_75 : decode cX10_wishOf 75 = .ok (.invokevirtual 92, 3) := by decide +kernel
theorem dX10_wishOf_78 : decode cX10_wishOf 78 = .ok (.istore 6, 2) := by decide +kernel
theorem dX10_wishOf_80 : decode cX10_wishOf 80 = .ok (.iload_n 2, 1) := by decide +kernel
theorem dX10_wishOf_81 : decode cX10_wishOf 81 = .ok (.iconst 1, 1) := by decide +kernel
theorem dX10_wishOf_82 : decode cX10_wishOf 82 = .ok (.if_icmp .ne 10, 3) := by decide +kernel
theorem dX10_wishOf_85 : decode cX10_wishOf 85 = .ok (.iload 6, 2) := by decide +kernel
theorem dX10_wishOf_87 : decode cX10_wishOf 87 = .ok (.iconst 2, 1) := by decide +kernel
theorem dX10_wishOf_88 : decode cX10_wishOf 88 = .ok (.idiv, 1) := by decide +kernel
theorem dX10_wishOf_89 : decode cX10_wishOf 89 = .ok (.goto 19, 3) := by decide +kernel
theorem dX10_wishOf_92 : decode cX10_wishOf 92 = .ok (.iload_n 2, 1) := by decide +kernel
theorem dX10_wishOf_93 : decode cX10_wishOf 93 = .ok (.iconst 2, 1) := by decide +kernel
theorem dX10_wishOf_94 : decode cX10_wishOf 94 = .ok (.if_icmp .ne 10, 3) := by decide +kernel
theorem dX10_wishOf_97 : decode cX10_wishOf 97 = .ok (.iconst 2, 1) := by decide +kernel
theorem dX10_wishOf_98 : decode cX10_wishOf 98 = .ok (.iload 6, 2) := by decide +kernel
theorem dX10_wishOf_100 : decode cX10_wishOf 100 = .ok (.imul, 1) := by decide +kernel
theorem dX10_wishOf_101 : decode cX10_wishOf 101 = .ok (.goto 7, 3) := by decide +kernel
theorem dX10_wishOf_104 : decode cX10_wishOf 104 = .ok (.iconst 3, 1) := by decide +kernel
theorem dX10_wishOf_105 : decode cX10_wishOf 105 = .ok (.iload 6, 2) := by decide +kernel
theorem dX10_wishOf_107 : decode cX10_wishOf 107 = .ok (.imul, 1) := by decide +kernel
theorem dX10_wishOf_108 : decode cX10_wishOf 108 = .ok (.ireturn, 1) := by decide +kernel
theorem dX10_wishOf_109 : decode cX10_wishOf 109 = .ok (.iload_n 2, 1) := by decide +kernel
theorem dX10_wishOf_110 : decode cX10_wishOf 110 = .ok (.ifCond .ne 11, 3) := by decide +kernel
theorem dX10_wishOf_113 : decode cX10_wishOf 113 = .ok (.aload_n 0, 1) := by decide +kernel
theorem dX10_wishOf_114 : decode cX10_wishOf 114 = .ok (.iconst 0, 1) := by decide +kernel
theorem dX10_wishOf_115 : decode cX10_wishOf 115 = .ok (.invokevirtual 89, 3) := by decide +kernel
theorem dX10_wishOf_118 : decode cX10_wishOf 118 = .ok (.goto 9, 3) := by decide +kernel
theorem dX10_wishOf_121 : decode cX10_wishOf 121 = .ok (.aload_n 0, 1) := by decide +kernel
theorem dX10_wishOf_122 : decode cX10_wishOf 122 = .ok (.iload_n 2, 1) := by decide +kernel
theorem dX10_wishOf_123 : decode cX10_wishOf 123 = .ok (.iload_n 3, 1) := by decide +kernel
theorem dX10_wishOf_124 : decode cX10_wishOf 124 = .ok (.invokevirtual 95, 3) := by decide +kernel
theorem dX10_wishOf_127 : decode cX10_wishOf 127 = .ok (.ireturn, 1) := by decide +kernel
theorem dX10_wishOf_128 : decode cX10_wishOf 128 = .ok (.iload_n 2, 1) := by decide +kernel
theorem dX10_wishOf_129 : decode cX10_wishOf 129 = .ok (.iconst 1, 1) := by decide +kernel
theorem dX10_wishOf_130 : decode cX10_wishOf 130 = .ok (.if_icmp .ne 26, 3) := by decide +kernel
theorem dX10_wishOf_133 : decode cX10_wishOf 133 = .ok (.aload_n 0, 1) := by decide +kernel
theorem dX10_wishOf_134 : decode cX10_wishOf 134 = .ok (.iconst 3, 1) := by decide +kernel
theorem dX10_wishOf_135 : decode cX10_wishOf 135 = .ok (.iconst 1, 1) := by decide +kernel
theorem dX10_wishOf_136 : decode cX10_wishOf 136 = .ok (.invokevirtual 86, 3) := by decide +kernel
theorem dX10_wishOf_139 : decode cX10_wishOf 139 = .ok (.iload_n 3, 1) := by decide +kernel
theorem dX10_wishOf_140 : decode cX10_wishOf 140 = .ok (.iconst 2, 1) := by decide +kernel
theorem dX10_wishOf_141 : decode cX10_wishOf 141 = .ok (.if_icmp .ne 8, 3) := by decide +kernel
theorem dX10_wishOf_144 : decode cX10_wishOf 144 = .ok (.bipush 7, 2) := by decide +kernel
theorem dX10_wishOf_146 : decode cX10_wishOf 146 = .ok (.goto 9, 3) := by decide +kernel
theorem dX10_wishOf_149 : decode cX10_wishOf 149 = .ok (.aload_n 0, 1) := by decide +kernel
theorem dX10_wishOf_150 : decode cX10_wishOf 150 = .ok (.iconst 1, 1) := by decide +kernel
theorem dX10_wishOf_151 : decode cX10_wishOf 151 = .ok (.iload_n 3, 1) := by decide +kernel
theorem dX10_wishOf_152 : decode cX10_wishOf 152 = .ok (.invokevirtual 95, 3) := by decide +kernel
theorem dX10_wishOf_155 : decode cX10_wishOf 155 = .ok (.ireturn, 1) := by decide +kernel
theorem dX10_wishOf_156 : decode cX10_wishOf 156 = .ok (.iload_n 2, 1) := by decide +kernel
theorem dX10_wishOf_157 : decode cX10_wishOf 157 = .ok (.ifCond .ne 11, 3) := by decide +kernel
theorem dX10_wishOf_160 : decode cX10_wishOf 160 = .ok (.aload_n 0, 1) := by decide +kernel
theorem dX10_wishOf_161 : decode cX10_wishOf 161 = .ok (.iconst 0, 1) := by decide +kernel
theorem dX10_wishOf_162 : decode cX10_wishOf 162 = .ok (.invokevirtual 89, 3) := by decide +kernel
theorem dX10_wishOf_165 : decode cX10_wishOf 165 = .ok (.goto 9, 3) := by decide +kernel
theorem dX10_wishOf_168 : decode cX10_wishOf 168 = .ok (.aload_n 0, 1) := by decide +kernel
theorem dX10_wishOf_169 : decode cX10_wishOf 169 = .ok (.iload_n 2, 1) := by decide +kernel
theorem dX10_wishOf_170 : decode cX10_wishOf 170 = .ok (.iload_n 3, 1) := by decide +kernel
theorem dX10_wishOf_171 : decode cX10_wishOf 171 = .ok (.invokevirtual 95, 3) := by decide +kernel
theorem dX10_wishOf_174 : decode cX10_wishOf 174 = .ok (.ireturn, 1) := by decide +kernel
theorem dX10_wishOf_175 : decode cX10_wishOf 175 = .ok (.iload_n 2, 1) := by decide +kernel
theorem dX10_wishOf_176 : decode cX10_wishOf 176 = .ok (.iconst 3, 1) := by decide +kernel
theorem dX10_wishOf_177 : decode cX10_wishOf 177 = .ok (.if_icmp .ne 10, 3) := by decide +kernel
theorem dX10_wishOf_180 : decode cX10_wishOf 180 = .ok (.aload_n 0, 1) := by decide +kernel
theorem dX10_wishOf_181 : decode cX10_wishOf 181 = .ok (.iconst 3, 1) := by decide +kernel
theorem dX10_wishOf_182 : decode cX10_wishOf 182 = .ok (.iload_n 3, 1) := by decide +kernel
theorem dX10_wishOf_183 : decode cX10_wishOf 183 = .ok (.invokevirtual 92, 3) := by decide +kernel
theorem dX10_wishOf_186 : decode cX10_wishOf 186 = .ok (.ireturn, 1) := by decide +kernel
theorem dX10_wishOf_187 : decode cX10_wishOf 187 = .ok (.aload_n 0, 1) := by decide +kernel
theorem dX10_wishOf_188 : decode cX10_wishOf 188 = .ok (.iconst 4, 1) := by decide +kernel
theorem dX10_wishOf_189 : decode cX10_wishOf 189 = .ok (.iload_n 2, 1) := by decide +kernel
theorem dX10_wishOf_190 : decode cX10_wishOf 190 = .ok (.invokevirtual 86, 3) := by decide +kernel
theorem dX10_wishOf_193 : decode cX10_wishOf 193 = .ok (.aload_n 0, 1) := by decide +kernel
theorem dX10_wishOf_194 : decode cX10_wishOf 194 = .ok (.iload_n 2, 1) := by decide +kernel
theorem dX10_wishOf_195 : decode cX10_wishOf 195 = .ok (.iload_n 3, 1) := by decide +kernel
theorem dX10_wishOf_196 : decode cX10_wishOf 196 = .ok (.invokevirtual 92, 3) := by decide +kernel
theorem dX10_wishOf_199 : decode cX10_wishOf 199 = .ok (.istore 7, 2) := by decide +kernel
theorem dX10_wishOf_201 : decode cX10_wishOf 201 = .ok (.iload_n 2, 1) := by decide +kernel
theorem dX10_wishOf_202 : decode cX10_wishOf 202 = .ok (.iconst 2, 1) := by decide +kernel
theorem dX10_wishOf_203 : decode cX10_wishOf 203 = .ok (.if_icmp .ne 11, 3) := by decide +kernel
theorem dX10_wishOf_206 : decode cX10_wishOf 206 = .ok (.iload 7, 2) := by decide +kernel
theorem dX10_wishOf_208 : decode cX10_wishOf 208 = .ok (.iload 5, 2) := by decide +kernel
theorem dX10_wishOf_210 : decode cX10_wishOf 210 = .ok (.iadd, 1) := by decide +kernel
theorem dX10_wishOf_211 : decode cX10_wishOf 211 = .ok (.goto 8, 3) := by decide +kernel
theorem dX10_wishOf_214 : decode cX10_wishOf 214 = .ok (.iload 7, 2) := by decide +kernel
theorem dX10_wishOf_216 : decode cX10_wishOf 216 = .ok (.iload 5, 2) := by decide +kernel
theorem dX10_wishOf_218 : decode cX10_wishOf 218 = .ok (.imul, 1) := by decide +kernel
theorem dX10_wishOf_219 : decode cX10_wishOf 219 = .ok (.ireturn, 1) := by decide +kernel
theorem dX10_wearOf_0 : decode cX10_wearOf 0 = .ok (.aload_n 0, 1) := by decide +kernel
theorem dX10_wearOf_1 : decode cX10_wearOf 1 = .ok (.bipush 6, 2) := by decide +kernel
theorem dX10_wearOf_3 : decode cX10_wearOf 3 = .ok (.iconst 4, 1) := by decide +kernel
theorem dX10_wearOf_4 : decode cX10_wearOf 4 = .ok (.invokevirtual 86, 3) := by decide +kernel
theorem dX10_wearOf_7 : decode cX10_wearOf 7 = .ok (.iload_n 2, 1) := by decide +kernel
theorem dX10_wearOf_8 : decode cX10_wearOf 8 = .ok (.aload_n 0, 1) := by decide +kernel
theorem dX10_wearOf_9 : decode cX10_wearOf 9 = .ok (.iload_n 1, 1) := by decide +kernel
theorem dX10_wearOf_10 : decode cX10_wearOf 10 = .ok (.iconst 3, 1) := by decide +kernel
theorem dX10_wearOf_11 : decode cX10_wearOf 11 = .ok (.iconst 0, 1) := by decide +kernel
theorem dX10_wearOf_12 : decode cX10_wearOf 12 = .ok (.invokevirtual 98, 3) := by decide +kernel
theorem dX10_wearOf_15 : decode cX10_wearOf 15 = .ok (.imul, 1) := by decide +kernel
theorem dX10_wearOf_16 : decode cX10_wearOf 16 = .ok (.ireturn, 1) := by decide +kernel
theorem dX10_hasFace_0 : decode cX10_hasFace 0 = .ok (.iload_n 1, 1) := by decide +kernel
theorem dX10_hasFace_1 : decode cX10_hasFace 1 = .ok (.ifCond .ne 21, 3) := by decide +kernel
theorem dX10_hasFace_4 : decode cX10_hasFace 4 = .ok (.iload_n 0, 1) := by decide +kernel
theorem dX10_hasFace_5 : decode cX10_hasFace 5 = .ok (.iconst 2, 1) := by decide +kernel
theorem dX10_hasFace_6 : decode cX10_hasFace 6 = .ok (.if_icmp .eq 12, 3) := by decide +kernel
theorem dX10_hasFace_9 : decode cX10_hasFace 9 = .ok (.iload_n 0, 1) := by decide +kernel
theorem dX10_hasFace_10 : decode cX10_hasFace 10 = .ok (.iconst 3, 1) := by decide +kernel
theorem dX10_hasFace_11 : decode cX10_hasFace 11 = .ok (.if_icmp .eq 7, 3) := by decide +kernel
theorem dX10_hasFace_14 : decode cX10_hasFace 14 = .ok (.iconst 1, 1) := by decide +kernel
theorem dX10_hasFace_15 : decode cX10_hasFace 15 = .ok (.goto 40, 3) := by decide +kernel
theorem dX10_hasFace_18 : decode cX10_hasFace 18 = .ok (.iconst 0, 1) := by decide +kernel
theorem dX10_hasFace_19 : decode cX10_hasFace 19 = .ok (.goto 36, 3) := by decide +kernel
theorem dX10_hasFace_22 : decode cX10_hasFace 22 = .ok (.iload_n 1, 1) := by decide +kernel
theorem dX10_hasFace_23 : decode cX10_hasFace 23 = .ok (.iconst 1, 1) := by decide +kernel
theorem dX10_hasFace_24 : decode cX10_hasFace 24 = .ok (.if_icmp .ne 16, 3) := by decide +kernel
theorem dX10_hasFace_27 : decode cX10_hasFace 27 = .ok (.iload_n 0, 1) := by decide +kernel
theorem dX10_hasFace_28 : decode cX10_hasFace 28 = .ok (.iconst 3, 1) := by decide +kernel
theorem dX10_hasFace_29 : decode cX10_hasFace 29 = .ok (.if_icmp .eq 7, 3) := by decide +kernel
theorem dX10_hasFace_32 : decode cX10_hasFace 32 = .ok (.iconst 1, 1) := by decide +kernel
theorem dX10_hasFace_33 : decode cX10_hasFace 33 = .ok (.goto 22, 3) := by decide +kernel
theorem dX10_hasFace_36 : decode cX10_hasFace 36 = .ok (.iconst 0, 1) := by decide +kernel
theorem dX10_hasFace_37 : decode cX10_hasFace 37 = .ok (.goto 18, 3) := by decide +kernel
theorem dX10_hasFace_40 : decode cX10_hasFace 40 = .ok (.iload_n 0, 1) := by decide +kernel
theorem dX10_hasFace_41 : decode cX10_hasFace 41 = .ok (.iconst 2, 1) := by decide +kernel
theorem dX10_hasFace_42 : decode cX10_hasFace 42 = .ok (.if_icmp .eq 8, 3) := by decide +kernel
theorem dX10_hasFace_45 : decode cX10_hasFace 45 = .ok (.iload_n 0, 1) := by decide +kernel
theorem dX10_hasFace_46 : decode cX10_hasFace 46 = .ok (.iconst 3, 1) := by decide +kernel
theorem dX10_hasFace_47 : decode cX10_hasFace 47 = .ok (.if_icmp .ne 7, 3) := by decide +kernel
theorem dX10_hasFace_50 : decode cX10_hasFace 50 = .ok (.iconst 1, 1) := by decide +kernel
theorem dX10_hasFace_51 : decode cX10_hasFace 51 = .ok (.goto 4, 3) := by decide +kernel
theorem dX10_hasFace_54 : decode cX10_hasFace 54 = .ok (.iconst 0, 1) := by decide +kernel
theorem dX10_hasFace_55 : decode cX10_hasFace 55 = .ok (.ireturn, 1) := by decide +kernel
theorem dX10_canDo_0 : decode cX10_canDo 0 = .ok (.iload_n 1, 1) := by decide +kernel
theorem dX10_canDo_1 : decode cX10_canDo 1 = .ok (.ifCond .eq 8, 3) := by decide +kernel
theorem dX10_canDo_4 : decode cX10_canDo 4 = .ok (.iload_n 1, 1) := by decide +kernel
theorem dX10_canDo_5 : decode cX10_canDo 5 = .ok (.iconst 3, 1) := by decide +kernel
theorem dX10_canDo_6 : decode cX10_canDo 6 = .ok (.if_icmp .ne 11, 3) := by decide +kernel
theorem dX10_canDo_9 : decode cX10_canDo 9 = .ok (.iload_n 0, 1) := by decide +kernel
theorem dX10_canDo_10 : decode cX10_canDo 10 = .ok (.iconst 0, 1) := by decide +kernel
theorem dX10_canDo_11 : decode cX10_canDo 11 = .ok (.invokestatic 102, 3) := by decide +kernel
theorem dX10_canDo_14 : decode cX10_canDo 14 = .ok (.goto 34, 3) := by decide +kernel
theorem dX10_canDo_17 : decode cX10_canDo 17 = .ok (.iload_n 1, 1) := by decide +kernel
theorem dX10_canDo_18 : decode cX10_canDo 18 = .ok (.iconst 1, 1) := by decide +kernel
theorem dX10_canDo_19 : decode cX10_canDo 19 = .ok (.if_icmp .ne 11, 3) := by decide +kernel
theorem dX10_canDo_22 : decode cX10_canDo 22 = .ok (.iload_n 0, 1) := by decide +kernel
theorem dX10_canDo_23 : decode cX10_canDo 23 = .ok (.iconst 1, 1) := by decide +kernel
theorem dX10_canDo_24 : decode cX10_canDo 24 = .ok (.invokestatic 102, 3) := by decide +kernel
theorem dX10_canDo_27 : decode cX10_canDo 27 = .ok (.goto 21, 3) := by decide +kernel
theorem dX10_canDo_30 : decode cX10_canDo 30 = .ok (.iload_n 1, 1) := by decide +kernel
theorem dX10_canDo_31 : decode cX10_canDo 31 = .ok (.iconst 2, 1) := by decide +kernel
theorem dX10_canDo_32 : decode cX10_canDo 32 = .ok (.if_icmp .ne 11, 3) := by decide +kernel
theorem dX10_canDo_35 : decode cX10_canDo 35 = .ok (.iload_n 0, 1) := by decide +kernel
theorem dX10_canDo_36 : decode cX10_canDo 36 = .ok (.iconst 2, 1) := by decide +kernel
theorem dX10_canDo_37 : decode cX10_canDo 37 = .ok (.invokestatic 102, 3) := by decide +kernel
theorem dX10_canDo_40 : decode cX10_canDo 40 = .ok (.ifCond .eq 7, 3) := by decide +kernel
theorem dX10_canDo_43 : decode cX10_canDo 43 = .ok (.iconst 1, 1) := by decide +kernel
theorem dX10_canDo_44 : decode cX10_canDo 44 = .ok (.goto 4, 3) := by decide +kernel
theorem dX10_canDo_47 : decode cX10_canDo 47 = .ok (.iconst 0, 1) := by decide +kernel
theorem dX10_canDo_48 : decode cX10_canDo 48 = .ok (.ireturn, 1) := by decide +kernel
theorem dX10_machine_0 : decode cX10_machine 0 = .ok (.aload_n 0, 1) := by decide +kernel
theorem dX10_machine_1 : decode cX10_machine 1 = .ok (.iconst 0, 1) := by decide +kernel
theorem dX10_machine_2 : decode cX10_machine 2 = .ok (.putfield 53, 3) := by decide +kernel
theorem dX10_machine_5 : decode cX10_machine 5 = .ok (.iload_n 1, 1) := by decide +kernel
theorem dX10_machine_6 : decode cX10_machine 6 = .ok (.invokestatic 106, 3) := by decide +kernel
theorem dX10_machine_9 : decode cX10_machine 9 = .ok (.ifCond .ne 5, 3) := by decide +kernel
theorem dX10_machine_12 : decode cX10_machine 12 = .ok (.iconst (-1), 1) := by decide +kernel
theorem dX10_machine_13 : decode cX10_machine 13 = .ok (.ireturn, 1) := by decide +kernel
theorem dX10_machine_14 : decode cX10_machine 14 = .ok (.iload_n 2, 1) := by decide +kernel
theorem dX10_machine_15 : decode cX10_machine 15 = .ok (.iconst 0, 1) := by decide +kernel
theorem dX10_machine_16 : decode cX10_machine 16 = .ok (.iconst 4, 1) := by decide +kernel
theorem dX10_machine_17 : decode cX10_machine 17 = .ok (.invokestatic 71, 3) := by decide +kernel
theorem dX10_machine_20 : decode cX10_machine 20 = .ok (.ifCond .eq 35, 3) := by decide +kernel
theorem dX10_machine_23 : decode cX10_machine 23 = .ok (.iload_n 3, 1) := by decide +kernel
theorem dX10_machine_24 : decode cX10_machine 24 = .ok (.iload_n 2, 1) := by decide +kernel
theorem dX10_machine_25 : decode cX10_machine 25 = .ok (.iconst 4, 1) := by decide +kernel
theorem dX10_machine_26 : decode cX10_machine 26 = .ok (.if_icmp .ne 7, 3) := by decide +kernel
theorem dX10_machine_29 : decode cX10_machine 29 = .ok (.iconst 0, 1) := by decide +kernel
theorem dX10_machine_30 : decode cX10_machine 30 = .ok (.goto 4, 3) := by decide +kernel
theorem dX10_machine_33 : decode cX10_machine 33 = .ok (.iconst 1, 1) := by decide +kernel
theorem dX10_machine_34 : decode cX10_machine 34 = .ok (.sipush 20000, 3) := by decide +kernel
theorem dX10_machine_37 : decode cX10_machine 37 = .ok (.invokestatic 71, 3) := by decide +kernel
theorem dX10_machine_40 : decode cX10_machine 40 = .ok (.ifCond .eq 15, 3) := by decide +kernel
theorem dX10_machine_43 : decode cX10_machine 43 = .ok (.iload 4, 2) := by decide +kernel
theorem dX10_machine_45 : decode cX10_machine 45 = .ok (.iconst 0, 1) := by decide +kernel
theorem dX10_machine_46 : decode cX10_machine 46 = .ok (.sipush 5000, 3) := by decide +kernel
theorem dX10_machine_49 : decode cX10_machine 49 = .ok (.invokestatic 71, 3) := by decide +kernel
theorem dX10_machine_52 : decode cX10_machine 52 = .ok (.ifCond .ne 6, 3) := by decide +kernel
theorem dX10_machine_55 : decode cX10_machine 55 = .ok (.bipush (-2), 2) := by decide +kernel
theorem dX10_machine_57 : decode cX10_machine 57 = .ok (.ireturn, 1) := by decide +kernel
theorem dX10_machine_58 : decode cX10_machine 58 = .ok (.aload_n 0, 1) := by decide +kernel
theorem dX10_machine_59 : decode cX10_machine 59 = .ok (.iload_n 1, 1) := by decide +kernel
theorem dX10_machine_60 : decode cX10_machine 60 = .ok (.invokevirtual 110, 3) := by decide +kernel
theorem dX10_machine_63 : decode cX10_machine 63 = .ok (.ifCond .eq 6, 3) := by decide +kernel
theorem dX10_machine_66 : decode cX10_machine 66 = .ok (.bipush (-3), 2) := by decide +kernel
theorem dX10_machine_68 : decode cX10_machine 68 = .ok (.ireturn, 1) := by decide +kernel
theorem dX10_machine_69 : decode cX10_machine 69 = .ok (.iconst 0, 1) := by decide +kernel
theorem dX10_machine_70 : decode cX10_machine 70 = .ok (.istore 5, 2) := by decide +kernel
theorem dX10_machine_72 : decode cX10_machine 72 = .ok (.iload 5, 2) := by decide +kernel
theorem dX10_machine_74 : decode cX10_machine 74 = .ok (.bipush 104, 2) := by decide +kernel
theorem dX10_machine_76 : decode cX10_machine 76 = .ok (.if_icmp .ge 17, 3) := by decide +kernel
theorem dX10_machine_79 : decode cX10_machine 79 = .ok (.aload_n 0, 1) := by decide +kernel
theorem dX10_machine_80 : decode cX10_machine 80 = .ok (.iload_n 1, 1) := by decide +kernel
theorem dX10_machine_81 : decode cX10_machine 81 = .ok (.iload 5, 2) := by decide +kernel
theorem dX10_machine_83 : decode cX10_machine 83 = .ok (.iconst 0, 1) := by decide +kernel
theorem dX10_machine_84 : decode cX10_machine 84 = .ok (.invokevirtual 113, 3) := by decide +kernel
theorem dX10_machine_87 : decode cX10_machine 87 = .ok (.iinc 5 1, 3) := by decide +kernel
theorem dX10_machine_90 : decode cX10_machine 90 = .ok (.goto (-18), 3) := by decide +kernel
theorem dX10_machine_93 : decode cX10_machine 93 = .ok (.aload_n 0, 1) := by decide +kernel
theorem dX10_machine_94 : decode cX10_machine 94 = .ok (.iload_n 1, 1) := by decide +kernel
theorem dX10_machine_95 : decode cX10_machine 95 = .ok (.iconst 0, 1) := by decide +kernel
theorem dX10_machine_96 : decode cX10_machine 96 = .ok (.iload_n 2, 1) := by decide +kernel
theorem dX10_machine_97 : decode cX10_machine 97 = .ok (.iconst 1, 1) := by decide +kernel
theorem dX10_machine_98 : decode cX10_machine 98 = .ok (.iadd, 1) := by decide +kernel
theorem dX10_machine_99 : decode cX10_machine 99 = .ok (.invokevirtual 113, 3) := by decide +kernel
theorem dX10_machine_102 : decode cX10_machine 102 = .ok (.aload_n 0, 1) := by decide +kernel
theorem dX10_machine_103 : decode cX10_machine 103 = .ok (.iload_n 1, 1) := by decide +kernel
theorem dX10_machine_104 : decode cX10_machine 104 = .ok (.iconst 1, 1) := by decide +kernel
theorem dX10_machine_105 : decode cX10_machine 105 = .ok (.iload_n 3, 1) := by decide +kernel
theorem dX10_machine_106 : decode cX10_machine 106 = .ok (.invokevirtual 113, 3) := by decide +kernel
theorem dX10_machine_109 : decode cX10_machine 109 = .ok (.aload_n 0, 1) := by decide +kernel
theorem dX10_machine_110 : decode cX10_machine 110 = .ok (.iload_n 1, 1) := by decide +kernel
theorem dX10_machine_111 : decode cX10_machine 111 = .ok (.iconst 2, 1) := by decide +kernel
theorem dX10_machine_112 : decode cX10_machine 112 = .ok (.iload 4, 2) := by decide +kernel
theorem dX10_machine_114 : decode cX10_machine 114 = .ok (.invokevirtual 113, 3) := by decide +kernel
theorem dX10_machine_117 : decode cX10_machine 117 = .ok (.aload_n 0, 1) := by decide +kernel
theorem dX10_machine_118 : decode cX10_machine 118 = .ok (.iload_n 1, 1) := by decide +kernel
theorem dX10_machine_119 : decode cX10_machine 119 = .ok (.iconst 3, 1) := by decide +kernel
theorem dX10_machine_120 : decode cX10_machine 120 = .ok (.iconst 1, 1) := by decide +kernel
theorem dX10_machine_121 : decode cX10_machine 121 = .ok (.invokevirtual 113, 3) := by decide +kernel
theorem dX10_machine_124 : decode cX10_machine 124 = .ok (.aload_n 0, 1) := by decide +kernel
theorem dX10_machine_125 : decode cX10_machine 125 = .ok (.iload_n 1, 1) := by decide +kernel
theorem dX10_machine_126 : decode cX10_machine 126 = .ok (.iconst 4, 1) := by decide +kernel
theorem dX10_machine_127 : decode cX10_machine 127 = .ok (.iconst 1, 1) := by decide +kernel
theorem dX10_machine_128 : decode cX10_machine 128 = .ok (.invokevirtual 113, 3) := by decide +kernel
theorem dX10_machine_131 : decode cX10_machine 131 = .ok (.iload_n 2, 1) := by decide +kernel
theorem dX10_machine_132 : decode cX10_machine 132 = .ok (.iconst 4, 1) := by decide +kernel
theorem dX10_machine_133 : decode cX10_machine 133 = .ok (.if_icmp .ne 23, 3) := by decide +kernel
theorem dX10_machine_136 : decode cX10_machine 136 = .ok (.iload_n 3, 1) := by decide +kernel
theorem dX10_machine_137 : decode cX10_machine 137 = .ok (.ifCond .le 19, 3) := by decide +kernel
theorem dX10_machine_140 : decode cX10_machine 140 = .ok (.aload_n 0, 1) := by decide +kernel
theorem dX10_machine_141 : decode cX10_machine 141 = .ok (.iload_n 1, 1) := by decide +kernel
theorem dX10_machine_142 : decode cX10_machine 142 = .ok (.bipush 7, 2) := by decide +kernel
theorem dX10_machine_144 : decode cX10_machine 144 = .ok (.iconst 1, 1) := by decide +kernel
theorem dX10_machine_145 : decode cX10_machine 145 = .ok (.invokevirtual 113, 3) := by decide +kernel
theorem dX10_machine_148 : decode cX10_machine 148 = .ok (.aload_n 0, 1) := by decide +kernel
theorem dX10_machine_149 : decode cX10_machine 149 = .ok (.iload_n 1, 1) := by decide +kernel
theorem dX10_machine_150 : decode cX10_machine 150 = .ok (.bipush 8, 2) := by decide +kernel
theorem dX10_machine_152 : decode cX10_machine 152 = .ok (.iload_n 3, 1) := by decide +kernel
theorem dX10_machine_153 : decode cX10_machine 153 = .ok (.invokevirtual 113, 3) := by decide +kernel
theorem dX10_machine_156 : decode cX10_machine 156 = .ok (.iconst 1, 1) := by decide +kernel
theorem dX10_machine_157 : decode cX10_machine 157 = .ok (.ireturn, 1) := by decide +kernel
theorem dX10_drum_0 : decode cX10_drum 0 = .ok (.aload_n 0, 1) := by decide +kernel
theorem dX10_drum_1 : decode cX10_drum 1 = .ok (.iconst 0, 1) := by decide +kernel
theorem dX10_drum_2 : decode cX10_drum 2 = .ok (.putfield 53, 3) := by decide +kernel
theorem dX10_drum_5 : decode cX10_drum 5 = .ok (.iload_n 1, 1) := by decide +kernel
theorem dX10_drum_6 : decode cX10_drum 6 = .ok (.invokestatic 106, 3) := by decide +kernel
theorem dX10_drum_9 : decode cX10_drum 9 = .ok (.ifCond .ne 5, 3) := by decide +kernel
theorem dX10_drum_12 : decode cX10_drum 12 = .ok (.iconst (-1), 1) := by decide +kernel
theorem dX10_drum_13 : decode cX10_drum 13 = .ok (.ireturn, 1) := by decide +kernel
theorem dX10_drum_14 : decode cX10_drum 14 = .ok (.iload_n 2, 1) := by decide +kernel
theorem dX10_drum_15 : decode cX10_drum 15 = .ok (.iconst 1, 1) := by decide +kernel
theorem dX10_drum_16 : decode cX10_drum 16 = .ok (.sipush 20000, 3) := by decide +kernel
theorem dX10_drum_19 : decode cX10_drum 19 = .ok (.invokestatic 71, 3) := by decide +kernel
theorem dX10_drum_22 : decode cX10_drum 22 = .ok (.ifCond .ne 6, 3) := by decide +kernel
theorem dX10_drum_25 : decode cX10_drum 25 = .ok (.bipush (-2), 2) := by decide +kernel
theorem dX10_drum_27 : decode cX10_drum 27 = .ok (.ireturn, 1) := by decide +kernel
theorem dX10_drum_28 : decode cX10_drum 28 = .ok (.aload_n 0, 1) := by decide +kernel
theorem dX10_drum_29 : decode cX10_drum 29 = .ok (.iload_n 1, 1) := by decide +kernel
theorem dX10_drum_30 : decode cX10_drum 30 = .ok (.invokevirtual 110, 3) := by decide +kernel
theorem dX10_drum_33 : decode cX10_drum 33 = .ok (.ifCond .ne 9, 3) := by decide +kernel
theorem dX10_drum_36 : decode cX10_drum 36 = .ok (.aload_n 0, 1) := by decide +kernel
theorem dX10_drum_37 : decode cX10_drum 37 = .ok (.iconst 1, 1) := by decide +kernel
theorem dX10_drum_38 : decode cX10_drum 38 = .ok (.invokevirtual 117, 3) := by decide +kernel
theorem dX10_drum_41 : decode cX10_drum 41 = .ok (.ireturn, 1) := by decide +kernel
theorem dX10_drum_42 : decode cX10_drum 42 = .ok (.aload_n 0, 1) := by decide +kernel
theorem dX10_drum_43 : decode cX10_drum 43 = .ok (.iload_n 1, 1) := by decide +kernel
theorem dX10_drum_44 : decode cX10_drum 44 = .ok (.invokevirtual 79, 3) := by decide +kernel
theorem dX10_drum_47 : decode cX10_drum 47 = .ok (.iconst 4, 1) := by decide +kernel
theorem dX10_drum_48 : decode cX10_drum 48 = .ok (.if_icmp .eq 9, 3) := by decide +kernel
theorem dX10_drum_51 : decode cX10_drum 51 = .ok (.aload_n 0, 1) := by decide +kernel
theorem dX10_drum_52 : decode cX10_drum 52 = .ok (.iconst 5, 1) := by decide +kernel
theorem dX10_drum_53 : decode cX10_drum 53 = .ok (.invokevirtual 117, 3) := by decide +kernel
theorem dX10_drum_56 : decode cX10_drum 56 = .ok (.ireturn, 1) := by decide +kernel
theorem dX10_drum_57 : decode cX10_drum 57 = .ok (.aload_n 0, 1) := by decide +kernel
theorem dX10_drum_58 : decode cX10_drum 58 = .ok (.iload_n 1, 1) := by decide +kernel
theorem dX10_drum_59 : decode cX10_drum 59 = .ok (.invokevirtual 120, 3) := by decide +kernel
theorem dX10_drum_62 : decode cX10_drum 62 = .ok (.ifCond .gt 14, 3) := by decide +kernel
theorem dX10_drum_65 : decode cX10_drum 65 = .ok (.aload_n 0, 1) := by decide +kernel
theorem dX10_drum_66 : decode cX10_drum 66 = .ok (.iload_n 1, 1) := by decide +kernel
theorem dX10_drum_67 : decode cX10_drum 67 = .ok (.bipush 26, 2) := by decide +kernel
theorem dX10_drum_69 : decode cX10_drum 69 = .ok (.invokevirtual 75, 3) := by decide +kernel
theorem dX10_drum_72 : decode cX10_drum 72 = .ok (.iconst 1, 1) := by decide +kernel
theorem dX10_drum_73 : decode cX10_drum 73 = .ok (.if_icmp .ne 10, 3) := by decide +kernel
theorem dX10_drum_76 : decode cX10_drum 76 = .ok (.aload_n 0, 1) := by decide +kernel
theorem dX10_drum_77 : decode cX10_drum 77 = .ok (.bipush 7, 2) := by decide +kernel
theorem dX10_drum_79 : decode cX10_drum 79 = .ok (.invokevirtual 117, 3) := by decide +kernel
theorem dX10_drum_82 : decode cX10_drum 82 = .ok (.ireturn, 1) := by decide +kernel
theorem dX10_drum_83 : decode cX10_drum 83 = .ok (.aload_n 0, 1) := by decide +kernel
theorem dX10_drum_84 : decode cX10_drum 84 = .ok (.iload_n 1, 1) := by decide +kernel
theorem dX10_drum_85 : decode cX10_drum 85 = .ok (.bipush 7, 2) := by decide +kernel
theorem dX10_drum_87 : decode cX10_drum 87 = .ok (.invokevirtual 75, 3) := by decide +kernel
theorem dX10_drum_90 : decode cX10_drum 90 = .ok (.istore_n 3, 1) := by decide +kernel
theorem dX10_drum_91 : decode cX10_drum 91 = .ok (.iload_n 3, 1) := by decide +kernel
theorem dX10_drum_92 : decode cX10_drum 92 = .ok (.bipush 6, 2) := by decide +kernel
theorem dX10_drum_94 : decode cX10_drum 94 = .ok (.if_icmp .ne 6, 3) := by decide +kernel
theorem dX10_drum_97 : decode cX10_drum 97 = .ok (.bipush (-4), 2) := by decide +kernel
theorem dX10_drum_99 : decode cX10_drum 99 = .ok (.ireturn, 1) := by decide +kernel
theorem dX10_drum_100 : decode cX10_drum 100 = .ok (.aload_n 0, 1) := by decide +kernel
theorem dX10_drum_101 : decode cX10_drum 101 = .ok (.iload_n 1, 1) := by decide +kernel
theorem dX10_drum_102 : decode cX10_drum 102 = .ok (.bipush 8, 2) := by decide +kernel
theorem dX10_drum_104 : decode cX10_drum 104 = .ok (.iload_n 3, 1) := by decide +kernel
theorem dX10_drum_105 : decode cX10_drum 105 = .ok (.iadd, 1) := by decide +kernel
theorem dX10_drum_106 : decode cX10_drum 106 = .ok (.iload_n 2, 1) := by decide +kernel
theorem dX10_drum_107 : decode cX10_drum 107 = .ok (.invokevirtual 113, 3) := by decide +kernel
theorem dX10_drum_110 : decode cX10_drum 110 = .ok (.aload_n 0, 1) := by decide +kernel
theorem dX10_drum_111 : decode cX10_drum 111 = .ok (.iload_n 1, 1) := by decide +kernel
theorem dX10_drum_112 : decode cX10_drum 112 = .ok (.bipush 7, 2) := by decide +kernel
theorem dX10_drum_114 : decode cX10_drum 114 = .ok (.iload_n 3, 1) := by decide +kernel
theorem dX10_drum_115 : decode cX10_drum 115 = .ok (.iconst 1, 1) := by decide +kernel
theorem dX10_drum_116 : decode cX10_drum 116 = .ok (.iadd, 1) := by decide +kernel
theorem dX10_drum_117 : decode cX10_drum 117 = .ok (.invokevirtual 113, 3) := by decide +kernel
theorem dX10_drum_120 : decode cX10_drum 120 = .ok (.iload_n 3, 1) := by decide +kernel
theorem dX10_drum_121 : decode cX10_drum 121 = .ok (.iconst 1, 1) := by decide +kernel
theorem dX10_drum_122 : decode cX10_drum 122 = .ok (.iadd, 1) := by decide +kernel
theorem dX10_drum_123 : decode cX10_drum 123 = .ok (.ireturn, 1) := by decide +kernel
theorem dX10_remove_0 : decode cX10_remove 0 = .ok (.aload_n 0, 1) := by decide +kernel
theorem dX10_remove_1 : decode cX10_remove 1 = .ok (.iconst 0, 1) := by decide +kernel
theorem dX10_remove_2 : decode cX10_remove 2 = .ok (.putfield 53, 3) := by decide +kernel
theorem dX10_remove_5 : decode cX10_remove 5 = .ok (.iload_n 1, 1) := by decide +kernel
theorem dX10_remove_6 : decode cX10_remove 6 = .ok (.invokestatic 106, 3) := by decide +kernel
theorem dX10_remove_9 : decode cX10_remove 9 = .ok (.ifCond .ne 5, 3) := by decide +kernel
theorem dX10_remove_12 : decode cX10_remove 12 = .ok (.iconst (-1), 1) := by decide +kernel
theorem dX10_remove_13 : decode cX10_remove 13 = .ok (.ireturn, 1) := by decide +kernel
theorem dX10_remove_14 : decode cX10_remove 14 = .ok (.aload_n 0, 1) := by decide +kernel
theorem dX10_remove_15 : decode cX10_remove 15 = .ok (.iload_n 1, 1) := by decide +kernel
theorem dX10_remove_16 : decode cX10_remove 16 = .ok (.invokevirtual 110, 3) := by decide +kernel
theorem dX10_remove_19 : decode cX10_remove 19 = .ok (.ifCond .ne 9, 3) := by decide +kernel
theorem dX10_remove_22 : decode cX10_remove 22 = .ok (.aload_n 0, 1) := by decide +kernel
theorem dX10_remove_23 : decode cX10_remove 23 = .ok (.iconst 1, 1) := by decide +kernel
theorem dX10_remove_24 : decode cX10_remove 24 = .ok (.invokevirtual 117, 3) := by decide +kernel
theorem dX10_remove_27 : decode cX10_remove 27 = .ok (.ireturn, 1) := by decide +kernel
theorem dX10_remove_28 : decode cX10_remove 28 = .ok (.aload_n 0, 1) := by decide +kernel
theorem dX10_remove_29 : decode cX10_remove 29 = .ok (.iload_n 1, 1) := by decide +kernel
theorem dX10_remove_30 : decode cX10_remove 30 = .ok (.invokevirtual 120, 3) := by decide +kernel
theorem dX10_remove_33 : decode cX10_remove 33 = .ok (.ifCond .gt 22, 3) := by decide +kernel
theorem dX10_remove_36 : decode cX10_remove 36 = .ok (.aload_n 0, 1) := by decide +kernel
theorem dX10_remove_37 : decode cX10_remove 37 = .ok (.iload_n 1, 1) := by decide +kernel
theorem dX10_remove_38 : decode cX10_remove 38 = .ok (.bipush 26, 2) := by decide +kernel
theorem dX10_remove_40 : decode cX10_remove 40 = .ok (.invokevirtual 75, 3) := by decide +kernel
theorem dX10_remove_43 : decode cX10_remove 43 = .ok (.iconst 1, 1) := by decide +kernel
theorem dX10_remove_44 : decode cX10_remove 44 = .ok (.if_icmp .eq 11, 3) := by decide +kernel
theorem dX10_remove_47 : decode cX10_remove 47 = .ok (.aload_n 0, 1) := by decide +kernel
theorem dX10_remove_48 : decode cX10_remove 48 = .ok (.iload_n 1, 1) := by decide +kernel
theorem dX10_remove_49 : decode cX10_remove 49 = .ok (.invokevirtual 123, 3) := by decide +kernel
theorem dX10_remove_52 : decode cX10_remove 52 = .ok (.ifCond .le 10, 3) := by decide +kernel
theorem dX10_remove_55 : decode cX10_remove 55 = .ok (.aload_n 0, 1) := by decide +kernel
theorem dX10_remove_56 : decode cX10_remove 56 = .ok (.bipush 7, 2) := by decide +kernel
theorem dX10_remove_58 : decode cX10_remove 58 = .ok (.invokevirtual 117, 3) := by decide +kernel
theorem dX10_remove_61 : decode cX10_remove 61 = .ok (.ireturn, 1) := by decide +kernel
theorem dX10_remove_62 : decode cX10_remove 62 = .ok (.aload_n 0, 1) := by decide +kernel
theorem dX10_remove_63 : decode cX10_remove 63 = .ok (.iload_n 1, 1) := by decide +kernel
theorem dX10_remove_64 : decode cX10_remove 64 = .ok (.invokevirtual 79, 3) := by decide +kernel
theorem dX10_remove_67 : decode cX10_remove 67 = .ok (.istore_n 2, 1) := by decide +kernel
theorem dX10_remove_68 : decode cX10_remove 68 = .ok (.iconst 0, 1) := by decide +kernel
theorem dX10_remove_69 : decode cX10_remove 69 = .ok (.istore_n 3, 1) := by decide +kernel
theorem dX10_remove_70 : decode cX10_remove 70 = .ok (.iload_n 3, 1) := by decide +kernel
theorem dX10_remove_71 : decode cX10_remove 71 = .ok (.bipush 104, 2) := by decide +kernel
theorem dX10_remove_73 : decode cX10_remove 73 = .ok (.if_icmp .ge 16, 3) := by decide +kernel
theorem dX10_remove_76 : decode cX10_remove 76 = .ok (.aload_n 0, 1) := by decide +kernel
theorem dX10_remove_77 : decode cX10_remove 77 = .ok (.iload_n 1, 1) := by decide +kernel
theorem dX10_remove_78 : decode cX10_remove 78 = .ok (.iload_n 3, 1) := by decide +kernel
theorem dX10_remove_79 : decode cX10_remove 79 = .ok (.iconst 0, 1) := by decide +kernel
theorem dX10_remove_80 : decode cX10_remove 80 = .ok (.invokevirtual 113, 3) := by decide +kernel
theorem dX10_remove_83 : decode cX10_remove 83 = .ok (.iinc 3 1, 3) := by decide +kernel
theorem dX10_remove_86 : decode cX10_remove 86 = .ok (.goto (-16), 3) := by decide +kernel
theorem dX10_remove_89 : decode cX10_remove 89 = .ok (.iload_n 2, 1) := by decide +kernel
theorem dX10_remove_90 : decode cX10_remove 90 = .ok (.ireturn, 1) := by decide +kernel
theorem dX10_told_0 : decode cX10_told 0 = .ok (.aload_n 0, 1) := by decide +kernel
theorem dX10_told_1 : decode cX10_told 1 = .ok (.iconst 0, 1) := by decide +kernel
theorem dX10_told_2 : decode cX10_told 2 = .ok (.putfield 53, 3) := by decide +kernel
theorem dX10_told_5 : decode cX10_told 5 = .ok (.iload_n 1, 1) := by decide +kernel
theorem dX10_told_6 : decode cX10_told 6 = .ok (.invokestatic 106, 3) := by decide +kernel
theorem dX10_told_9 : decode cX10_told 9 = .ok (.ifCond .ne 5, 3) := by decide +kernel
theorem dX10_told_12 : decode cX10_told 12 = .ok (.iconst (-1), 1) := by decide +kernel
theorem dX10_told_13 : decode cX10_told 13 = .ok (.ireturn, 1) := by decide +kernel
theorem dX10_told_14 : decode cX10_told 14 = .ok (.iload_n 2, 1) := by decide +kernel
theorem dX10_told_15 : decode cX10_told 15 = .ok (.iconst 0, 1) := by decide +kernel
theorem dX10_told_16 : decode cX10_told 16 = .ok (.bipush 12, 2) := by decide +kernel
theorem dX10_told_18 : decode cX10_told 18 = .ok (.invokestatic 71, 3) := by decide +kernel
theorem dX10_told_21 : decode cX10_told 21 = .ok (.ifCond .ne 6, 3) := by decide +kernel
theorem dX10_told_24 : decode cX10_told 24 = .ok (.bipush (-2), 2) := by decide +kernel
theorem dX10_told_26 : decode cX10_told 26 = .ok (.ireturn, 1) := by decide +kernel
theorem dX10_told_27 : decode cX10_told 27 = .ok (.aload_n 0, 1) := by decide +kernel
theorem dX10_told_28 : decode cX10_told 28 = .ok (.iload_n 1, 1) := by decide +kernel
theorem dX10_told_29 : decode cX10_told 29 = .ok (.invokevirtual 110, 3) := by decide +kernel
theorem dX10_told_32 : decode cX10_told 32 = .ok (.ifCond .ne 9, 3) := by decide +kernel
theorem dX10_told_35 : decode cX10_told 35 = .ok (.aload_n 0, 1) := by decide +kernel
theorem dX10_told_36 : decode cX10_told 36 = .ok (.iconst 1, 1) := by decide +kernel
theorem dX10_told_37 : decode cX10_told 37 = .ok (.invokevirtual 117, 3) := by decide +kernel
theorem dX10_told_40 : decode cX10_told 40 = .ok (.ireturn, 1) := by decide +kernel
theorem dX10_told_41 : decode cX10_told 41 = .ok (.iload_n 2, 1) := by decide +kernel
theorem dX10_told_42 : decode cX10_told 42 = .ok (.tableswitch 124 0 9 #[54, 60, 66, 73, 80, 87, 94, 100, 108, 116], 54) := by decide +kernel
theorem dX10_told_96 : decode cX10_told 96 = .ok (.aload_n 0, 1) := by decide +kernel
theorem dX10_told_97 : decode cX10_told 97 = .ok (.iload_n 1, 1) := by decide +kernel
theorem dX10_told_98 : decode cX10_told 98 = .ok (.invokevirtual 79, 3) := by decide +kernel
theorem dX10_told_101 : decode cX10_told 101 = .ok (.ireturn, 1) := by decide +kernel
theorem dX10_told_102 : decode cX10_told 102 = .ok (.aload_n 0, 1) := by decide +kernel
theorem dX10_told_103 : decode cX10_told 103 = .ok (.iload_n 1, 1) := by decide +kernel
theorem dX10_told_104 : decode cX10_told 104 = .ok (.invokevirtual 126, 3) := by decide +kernel
theorem dX10_told_107 : decode cX10_told 107 = .ok (.ireturn, 1) := by decide +kernel
theorem dX10_told_108 : decode cX10_told 108 = .ok (.aload_n 0, 1) := by decide +kernel
theorem dX10_told_109 : decode cX10_told 109 = .ok (.iload_n 1, 1) := by decide +kernel
theorem dX10_told_110 : decode cX10_told 110 = .ok (.iconst 2, 1) := by decide +kernel
theorem dX10_told_111 : decode cX10_told 111 = .ok (.invokevirtual 75, 3) := by decide +kernel
theorem dX10_told_114 : decode cX10_told 114 = .ok (.ireturn, 1) := by decide +kernel
theorem dX10_told_115 : decode cX10_told 115 = .ok (.aload_n 0, 1) := by decide +kernel
theorem dX10_told_116 : decode cX10_told 116 = .ok (.iload_n 1, 1) := by decide +kernel
theorem dX10_told_117 : decode cX10_told 117 = .ok (.iconst 3, 1) := by decide +kernel
theorem dX10_told_118 : decode cX10_told 118 = .ok (.invokevirtual 75, 3) := by decide +kernel
theorem dX10_told_121 : decode cX10_told 121 = .ok (.ireturn, 1) := by decide +kernel
theorem dX10_told_122 : decode cX10_told 122 = .ok (.aload_n 0, 1) := by decide +kernel
theorem dX10_told_123 : decode cX10_told 123 = .ok (.iload_n 1, 1) := by decide +kernel
theorem dX10_told_124 : decode cX10_told 124 = .ok (.iconst 4, 1) := by decide +kernel
theorem dX10_told_125 : decode cX10_told 125 = .ok (.invokevirtual 75, 3) := by decide +kernel
theorem dX10_told_128 : decode cX10_told 128 = .ok (.ireturn, 1) := by decide +kernel
theorem dX10_told_129 : decode cX10_told 129 = .ok (.aload_n 0, 1) := by decide +kernel
theorem dX10_told_130 : decode cX10_told 130 = .ok (.iload_n 1, 1) := by decide +kernel
theorem dX10_told_131 : decode cX10_told 131 = .ok (.iconst 5, 1) := by decide +kernel
theorem dX10_told_132 : decode cX10_told 132 = .ok (.invokevirtual 75, 3) := by decide +kernel
theorem dX10_told_135 : decode cX10_told 135 = .ok (.ireturn, 1) := by decide +kernel
theorem dX10_told_136 : decode cX10_told 136 = .ok (.aload_n 0, 1) := by decide +kernel
theorem dX10_told_137 : decode cX10_told 137 = .ok (.iload_n 1, 1) := by decide +kernel
theorem dX10_told_138 : decode cX10_told 138 = .ok (.invokevirtual 120, 3) := by decide +kernel
theorem dX10_told_141 : decode cX10_told 141 = .ok (.ireturn, 1) := by decide +kernel
theorem dX10_told_142 : decode cX10_told 142 = .ok (.aload_n 0, 1) := by decide +kernel
theorem dX10_told_143 : decode cX10_told 143 = .ok (.iload_n 1, 1) := by decide +kernel
theorem dX10_told_144 : decode cX10_told 144 = .ok (.bipush 6, 2) := by decide +kernel
theorem dX10_told_146 : decode cX10_told 146 = .ok (.invokevirtual 75, 3) := by decide +kernel
theorem dX10_told_149 : decode cX10_told 149 = .ok (.ireturn, 1) := by decide +kernel
theorem dX10_told_150 : decode cX10_told 150 = .ok (.aload_n 0, 1) := by decide +kernel
theorem dX10_told_151 : decode cX10_told 151 = .ok (.iload_n 1, 1) := by decide +kernel
theorem dX10_told_152 : decode cX10_told 152 = .ok (.bipush 7, 2) := by decide +kernel
theorem dX10_told_154 : decode cX10_told 154 = .ok (.invokevirtual 75, 3) := by decide +kernel
theorem dX10_told_157 : decode cX10_told 157 = .ok (.ireturn, 1) := by decide +kernel
theorem dX10_told_158 : decode cX10_told 158 = .ok (.aload_n 0, 1) := by decide +kernel
theorem dX10_told_159 : decode cX10_told 159 = .ok (.iload_n 1, 1) := by decide +kernel
theorem dX10_told_160 : decode cX10_told 160 = .ok (.bipush 30, 2) := by decide +kernel
theorem dX10_told_162 : decode cX10_told 162 = .ok (.invokevirtual 75, 3) := by decide +kernel
theorem dX10_told_165 : decode cX10_told 165 = .ok (.ireturn, 1) := by decide +kernel
theorem dX10_told_166 : decode cX10_told 166 = .ok (.aload_n 0, 1) := by decide +kernel
theorem dX10_told_167 : decode cX10_told 167 = .ok (.iload_n 1, 1) := by decide +kernel
theorem dX10_told_168 : decode cX10_told 168 = .ok (.invokevirtual 79, 3) := by decide +kernel
theorem dX10_told_171 : decode cX10_told 171 = .ok (.iload_n 2, 1) := by decide +kernel
theorem dX10_told_172 : decode cX10_told 172 = .ok (.bipush 10, 2) := by decide +kernel
theorem dX10_told_174 : decode cX10_told 174 = .ok (.isub, 1) := by decide +kernel
theorem dX10_told_175 : decode cX10_told 175 = .ok (.invokestatic 102, 3) := by decide +kernel
theorem dX10_told_178 : decode cX10_told 178 = .ok (.ifCond .eq 7, 3) := by decide +kernel
theorem dX10_told_181 : decode cX10_told 181 = .ok (.iconst 1, 1) := by decide +kernel
theorem dX10_told_182 : decode cX10_told 182 = .ok (.goto 4, 3) := by decide +kernel
theorem dX10_told_185 : decode cX10_told 185 = .ok (.iconst 0, 1) := by decide +kernel
theorem dX10_told_186 : decode cX10_told 186 = .ok (.ireturn, 1) := by decide +kernel
theorem dX10_wish_0 : decode cX10_wish 0 = .ok (.aload_n 0, 1) := by decide +kernel
theorem dX10_wish_1 : decode cX10_wish 1 = .ok (.iconst 0, 1) := by decide +kernel
theorem dX10_wish_2 : decode cX10_wish 2 = .ok (.putfield 53, 3) := by decide +kernel
theorem dX10_wish_5 : decode cX10_wish 5 = .ok (.iload_n 1, 1) := by decide +kernel
theorem dX10_wish_6 : decode cX10_wish 6 = .ok (.invokestatic 106, 3) := by decide +kernel
theorem dX10_wish_9 : decode cX10_wish 9 = .ok (.ifCond .ne 5, 3) := by decide +kernel
theorem dX10_wish_12 : decode cX10_wish 12 = .ok (.iconst (-1), 1) := by decide +kernel
theorem dX10_wish_13 : decode cX10_wish 13 = .ok (.ireturn, 1) := by decide +kernel
theorem dX10_wish_14 : decode cX10_wish 14 = .ok (.iload_n 2, 1) := by decide +kernel
theorem dX10_wish_15 : decode cX10_wish 15 = .ok (.iconst 0, 1) := by decide +kernel
theorem dX10_wish_16 : decode cX10_wish 16 = .ok (.iconst 4, 1) := by decide +kernel
theorem dX10_wish_17 : decode cX10_wish 17 = .ok (.invokestatic 71, 3) := by decide +kernel
theorem dX10_wish_20 : decode cX10_wish 20 = .ok (.ifCond .eq 33, 3) := by decide +kernel
theorem dX10_wish_23 : decode cX10_wish 23 = .ok (.iload_n 2, 1) := by decide +kernel
theorem dX10_wish_24 : decode cX10_wish 24 = .ok (.iconst 3, 1) := by decide +kernel
theorem dX10_wish_25 : decode cX10_wish 25 = .ok (.if_icmp .ge 12, 3) := by decide +kernel
theorem dX10_wish_28 : decode cX10_wish 28 = .ok (.iload_n 3, 1) := by decide +kernel
theorem dX10_wish_29 : decode cX10_wish 29 = .ok (.iconst 0, 1) := by decide +kernel
theorem dX10_wish_30 : decode cX10_wish 30 = .ok (.iconst 4, 1) := by decide +kernel
theorem dX10_wish_31 : decode cX10_wish 31 = .ok (.invokestatic 71, 3) := by decide +kernel
theorem dX10_wish_34 : decode cX10_wish 34 = .ok (.ifCond .eq 19, 3) := by decide +kernel
theorem dX10_wish_37 : decode cX10_wish 37 = .ok (.iload_n 2, 1) := by decide +kernel
theorem dX10_wish_38 : decode cX10_wish 38 = .ok (.iconst 4, 1) := by decide +kernel
theorem dX10_wish_39 : decode cX10_wish 39 = .ok (.if_icmp .ne 17, 3) := by decide +kernel
theorem dX10_wish_42 : decode cX10_wish 42 = .ok (.iload_n 3, 1) := by decide +kernel
theorem dX10_wish_43 : decode cX10_wish 43 = .ok (.iconst 0, 1) := by decide +kernel
theorem dX10_wish_44 : decode cX10_wish 44 = .ok (.sipush 1000, 3) := by decide +kernel
theorem dX10_wish_47 : decode cX10_wish 47 = .ok (.invokestatic 71, 3) := by decide +kernel
theorem dX10_wish_50 : decode cX10_wish 50 = .ok (.ifCond .ne 6, 3) := by decide +kernel
theorem dX10_wish_53 : decode cX10_wish 53 = .ok (.bipush (-2), 2) := by decide +kernel
theorem dX10_wish_55 : decode cX10_wish 55 = .ok (.ireturn, 1) := by decide +kernel
theorem dX10_wish_56 : decode cX10_wish 56 = .ok (.aload_n 0, 1) := by decide +kernel
theorem dX10_wish_57 : decode cX10_wish 57 = .ok (.iload_n 1, 1) := by decide +kernel
theorem dX10_wish_58 : decode cX10_wish 58 = .ok (.invokevirtual 110, 3) := by decide +kernel
theorem dX10_wish_61 : decode cX10_wish 61 = .ok (.ifCond .ne 9, 3) := by decide +kernel
theorem dX10_wish_64 : decode cX10_wish 64 = .ok (.aload_n 0, 1) := by decide +kernel
theorem dX10_wish_65 : decode cX10_wish 65 = .ok (.iconst 1, 1) := by decide +kernel
theorem dX10_wish_66 : decode cX10_wish 66 = .ok (.invokevirtual 117, 3) := by decide +kernel
theorem dX10_wish_69 : decode cX10_wish 69 = .ok (.ireturn, 1) := by decide +kernel
theorem dX10_wish_70 : decode cX10_wish 70 = .ok (.iload_n 2, 1) := by decide +kernel
theorem dX10_wish_71 : decode cX10_wish 71 = .ok (.iconst 2, 1) := by decide +kernel
theorem dX10_wish_72 : decode cX10_wish 72 = .ok (.if_icmp .le 21, 3) := by decide +kernel
theorem dX10_wish_75 : decode cX10_wish 75 = .ok (.aload_n 0, 1) := by decide +kernel
theorem dX10_wish_76 : decode cX10_wish 76 = .ok (.iload_n 1, 1) := by decide +kernel
theorem dX10_wish_77 : decode cX10_wish 77 = .ok (.invokevirtual 79, 3) := by decide +kernel
theorem dX10_wish_80 : decode cX10_wish 80 = .ok (.iconst 1, 1) := by decide +kernel
theorem dX10_wish_81 : decode cX10_wish 81 = .ok (.invokestatic 102, 3) := by decide +kernel
theorem dX10_wish_84 : decode cX10_wish 84 = .ok (.ifCond .ne 9, 3) := by decide +kernel
theorem dX10_wish_87 : decode cX10_wish 87 = .ok (.aload_n 0, 1) := by decide +kernel
theorem dX10_wish_88 : decode cX10_wish 88 = .ok (.iconst 5, 1) := by decide +kernel
theorem dX10_wish_89 : decode cX10_wish 89 = .ok (.invokevirtual 117, 3) := by decide +kernel
theorem dX10_wish_92 : decode cX10_wish 92 = .ok (.ireturn, 1) := by decide +kernel
theorem dX10_wish_93 : decode cX10_wish 93 = .ok (.iload_n 2, 1) := by decide +kernel
theorem dX10_wish_94 : decode cX10_wish 94 = .ok (.iconst 4, 1) := by decide +kernel
theorem dX10_wish_95 : decode cX10_wish 95 = .ok (.if_icmp .ne 12, 3) := by decide +kernel
theorem dX10_wish_98 : decode cX10_wish 98 = .ok (.aload_n 0, 1) := by decide +kernel
theorem dX10_wish_99 : decode cX10_wish 99 = .ok (.iload_n 1, 1) := by decide +kernel
theorem dX10_wish_100 : decode cX10_wish 100 = .ok (.iload_n 3, 1) := by decide +kernel
theorem dX10_wish_101 : decode cX10_wish 101 = .ok (.invokevirtual 129, 3) := by decide +kernel
theorem dX10_wish_104 : decode cX10_wish 104 = .ok (.goto 10, 3) := by decide +kernel
theorem dX10_wish_107 : decode cX10_wish 107 = .ok (.aload_n 0, 1) := by decide +kernel
theorem dX10_wish_108 : decode cX10_wish 108 = .ok (.iload_n 1, 1) := by decide +kernel
theorem dX10_wish_109 : decode cX10_wish 109 = .ok (.iload_n 2, 1) := by decide +kernel
theorem dX10_wish_110 : decode cX10_wish 110 = .ok (.iload_n 3, 1) := by decide +kernel
theorem dX10_wish_111 : decode cX10_wish 111 = .ok (.invokevirtual 98, 3) := by decide +kernel
theorem dX10_wish_114 : decode cX10_wish 114 = .ok (.ireturn, 1) := by decide +kernel
theorem dX10_trace_0 : decode cX10_trace 0 = .ok (.aload_n 0, 1) := by decide +kernel
theorem dX10_trace_1 : decode cX10_trace 1 = .ok (.iconst 0, 1) := by decide +kernel
theorem dX10_trace_2 : decode cX10_trace 2 = .ok (.putfield 53, 3) := by decide +kernel
theorem dX10_trace_5 : decode cX10_trace 5 = .ok (.iload_n 1, 1) := by decide +kernel
theorem dX10_trace_6 : decode cX10_trace 6 = .ok (.ifCond .lt 36, 3) := by decide +kernel
theorem dX10_trace_9 : decode cX10_trace 9 = .ok (.iload_n 1, 1) := by decide +kernel
theorem dX10_trace_10 : decode cX10_trace 10 = .ok (.bipush 30, 2) := by decide +kernel
theorem dX10_trace_12 : decode cX10_trace 12 = .ok (.if_icmp .ge 30, 3) := by decide +kernel
theorem dX10_trace_15 : decode cX10_trace 15 = .ok (.iload_n 1, 1) := by decide +kernel
theorem dX10_trace_16 : decode cX10_trace 16 = .ok (.aload_n 0, 1) := by decide +kernel
theorem dX10_trace_17 : decode cX10_trace 17 = .ok (.getfield 83, 3) := by decide +kernel
theorem dX10_trace_20 : decode cX10_trace 20 = .ok (.if_icmp .ge 22, 3) := by decide +kernel
theorem dX10_trace_23 : decode cX10_trace 23 = .ok (.aload_n 0, 1) := by decide +kernel
theorem dX10_trace_24 : decode cX10_trace 24 = .ok (.getfield 23, 3) := by decide +kernel
theorem dX10_trace_27 : decode cX10_trace 27 = .ok (.aload_n 0, 1) := by decide +kernel
theorem dX10_trace_28 : decode cX10_trace 28 = .ok (.getfield 83, 3) := by decide +kernel
theorem dX10_trace_31 : decode cX10_trace 31 = .ok (.iconst 1, 1) := by decide +kernel
theorem dX10_trace_32 : decode cX10_trace 32 = .ok (.isub, 1) := by decide +kernel
theorem dX10_trace_33 : decode cX10_trace 33 = .ok (.iload_n 1, 1) := by decide +kernel
theorem dX10_trace_34 : decode cX10_trace 34 = .ok (.isub, 1) := by decide +kernel
theorem dX10_trace_35 : decode cX10_trace 35 = .ok (.bipush 30, 2) := by decide +kernel
theorem dX10_trace_37 : decode cX10_trace 37 = .ok (.irem, 1) := by decide +kernel
theorem dX10_trace_38 : decode cX10_trace 38 = .ok (.iaload, 1) := by decide +kernel
theorem dX10_trace_39 : decode cX10_trace 39 = .ok (.goto 5, 3) := by decide +kernel
theorem dX10_trace_42 : decode cX10_trace 42 = .ok (.bipush (-5), 2) := by decide +kernel
theorem dX10_trace_44 : decode cX10_trace 44 = .ok (.ireturn, 1) := by decide +kernel
theorem dX10_touches_0 : decode cX10_touches 0 = .ok (.aload_n 0, 1) := by decide +kernel
theorem dX10_touches_1 : decode cX10_touches 1 = .ok (.iconst 0, 1) := by decide +kernel
theorem dX10_touches_2 : decode cX10_touches 2 = .ok (.putfield 53, 3) := by decide +kernel
theorem dX10_touches_5 : decode cX10_touches 5 = .ok (.iload_n 1, 1) := by decide +kernel
theorem dX10_touches_6 : decode cX10_touches 6 = .ok (.invokestatic 106, 3) := by decide +kernel
theorem dX10_touches_9 : decode cX10_touches 9 = .ok (.ifCond .ne 7, 3) := by decide +kernel
theorem dX10_touches_12 : decode cX10_touches 12 = .ok (.iconst (-1), 1) := by decide +kernel
theorem dX10_touches_13 : decode cX10_touches 13 = .ok (.goto 23, 3) := by decide +kernel
theorem dX10_touches_16 : decode cX10_touches 16 = .ok (.iload_n 2, 1) := by decide +kernel
theorem dX10_touches_17 : decode cX10_touches 17 = .ok (.iconst 0, 1) := by decide +kernel
theorem dX10_touches_18 : decode cX10_touches 18 = .ok (.iconst 1, 1) := by decide +kernel
theorem dX10_touches_19 : decode cX10_touches 19 = .ok (.invokestatic 71, 3) := by decide +kernel
theorem dX10_touches_22 : decode cX10_touches 22 = .ok (.ifCond .ne 8, 3) := by decide +kernel
theorem dX10_touches_25 : decode cX10_touches 25 = .ok (.bipush (-2), 2) := by decide +kernel
theorem dX10_touches_27 : decode cX10_touches 27 = .ok (.goto 9, 3) := by decide +kernel
theorem dX10_touches_30 : decode cX10_touches 30 = .ok (.aload_n 0, 1) := by decide +kernel
theorem dX10_touches_31 : decode cX10_touches 31 = .ok (.getfield 26, 3) := by decide +kernel
theorem dX10_touches_34 : decode cX10_touches 34 = .ok (.iload_n 1, 1) := by decide +kernel
theorem dX10_touches_35 : decode cX10_touches 35 = .ok (.iaload, 1) := by decide +kernel
theorem dX10_touches_36 : decode cX10_touches 36 = .ok (.ireturn, 1) := by decide +kernel
theorem dX10_isProgram_0 : decode cX10_isProgram 0 = .ok (.iload_n 0, 1) := by decide +kernel
theorem dX10_isProgram_1 : decode cX10_isProgram 1 = .ok (.iconst 0, 1) := by decide +kernel
theorem dX10_isProgram_2 : decode cX10_isProgram 2 = .ok (.bipush 39, 2) := by decide +kernel
theorem dX10_isProgram_4 : decode cX10_isProgram 4 = .ok (.invokestatic 71, 3) := by decide +kernel
theorem dX10_isProgram_7 : decode cX10_isProgram 7 = .ok (.ireturn, 1) := by decide +kernel
theorem dX10_program_0 : decode cX10_program 0 = .ok (.aload_n 0, 1) := by decide +kernel
theorem dX10_program_1 : decode cX10_program 1 = .ok (.iconst 0, 1) := by decide +kernel
theorem dX10_program_2 : decode cX10_program 2 = .ok (.putfield 53, 3) := by decide +kernel
theorem dX10_program_5 : decode cX10_program 5 = .ok (.iload_n 1, 1) := by decide +kernel
theorem dX10_program_6 : decode cX10_program 6 = .ok (.invokestatic 132, 3) := by decide +kernel
theorem dX10_program_9 : decode cX10_program 9 = .ok (.ifCond .ne 5, 3) := by decide +kernel
theorem dX10_program_12 : decode cX10_program 12 = .ok (.iconst (-1), 1) := by decide +kernel
theorem dX10_program_13 : decode cX10_program 13 = .ok (.ireturn, 1) := by decide +kernel
theorem dX10_program_14 : decode cX10_program 14 = .ok (.iload_n 2, 1) := by decide +kernel
theorem dX10_program_15 : decode cX10_program 15 = .ok (.bipush 30, 2) := by decide +kernel
theorem dX10_program_17 : decode cX10_program 17 = .ok (.if_icmp .le 6, 3) := by decide +kernel
theorem dX10_program_20 : decode cX10_program 20 = .ok (.bipush (-2), 2) := by decide +kernel
theorem dX10_program_22 : decode cX10_program 22 = .ok (.ireturn, 1) := by decide +kernel
theorem dX10_program_23 : decode cX10_program 23 = .ok (.iload_n 2, 1) := by decide +kernel
theorem dX10_program_24 : decode cX10_program 24 = .ok (.ifCond .ge 10, 3) := by decide +kernel
theorem dX10_program_27 : decode cX10_program 27 = .ok (.aload_n 0, 1) := by decide +kernel
theorem dX10_program_28 : decode cX10_program 28 = .ok (.bipush 13, 2) := by decide +kernel
theorem dX10_program_30 : decode cX10_program 30 = .ok (.invokevirtual 117, 3) := by decide +kernel
theorem dX10_program_33 : decode cX10_program 33 = .ok (.ireturn, 1) := by decide +kernel
theorem dX10_program_34 : decode cX10_program 34 = .ok (.sipush 6240, 3) := by decide +kernel
theorem dX10_program_37 : decode cX10_program 37 = .ok (.bipush 62, 2) := by decide +kernel
theorem dX10_program_39 : decode cX10_program 39 = .ok (.iload_n 1, 1) := by decide +kernel
theorem dX10_program_40 : decode cX10_program 40 = .ok (.imul, 1) := by decide +kernel
theorem dX10_program_41 : decode cX10_program 41 = .ok (.iadd, 1) := by decide +kernel
theorem dX10_program_42 : decode cX10_program 42 = .ok (.istore_n 3, 1) := by decide +kernel
theorem dX10_program_43 : decode cX10_program 43 = .ok (.aload_n 0, 1) := by decide +kernel
theorem dX10_program_44 : decode cX10_program 44 = .ok (.iload_n 3, 1) := by decide +kernel
theorem dX10_program_45 : decode cX10_program 45 = .ok (.iconst 1, 1) := by decide +kernel
theorem dX10_program_46 : decode cX10_program 46 = .ok (.invokevirtual 67, 3) := by decide +kernel
theorem dX10_program_49 : decode cX10_program 49 = .ok (.aload_n 0, 1) := by decide +kernel
theorem dX10_program_50 : decode cX10_program 50 = .ok (.iload_n 3, 1) := by decide +kernel
theorem dX10_program_51 : decode cX10_program 51 = .ok (.iconst 1, 1) := by decide +kernel
theorem dX10_program_52 : decode cX10_program 52 = .ok (.iadd, 1) := by decide +kernel
theorem dX10_program_53 : decode cX10_program 53 = .ok (.iload_n 2, 1) := by decide +kernel
theorem dX10_program_54 : decode cX10_program 54 = .ok (.invokevirtual 67, 3) := by decide +kernel
theorem dX10_program_57 : decode cX10_program 57 = .ok (.iconst 0, 1) := by decide +kernel
theorem dX10_program_58 : decode cX10_program 58 = .ok (.istore 4, 2) := by decide +kernel
theorem dX10_program_60 : decode cX10_program 60 = .ok (.iload 4, 2) := by decide +kernel
theorem dX10_program_62 : decode cX10_program 62 = .ok (.iload_n 2, 1) := by decide +kernel
theorem dX10_program_63 : decode cX10_program 63 = .ok (.if_icmp .ge 32, 3) := by decide +kernel
theorem dX10_program_66 : decode cX10_program 66 = .ok (.aload_n 0, 1) := by decide +kernel
theorem dX10_program_67 : decode cX10_program 67 = .ok (.iload_n 3, 1) := by decide +kernel
theorem dX10_program_68 : decode cX10_program 68 = .ok (.iconst 2, 1) := by decide +kernel
theorem dX10_program_69 : decode cX10_program 69 = .ok (.iadd, 1) := by decide +kernel
theorem dX10_program_70 : decode cX10_program 70 = .ok (.iload 4, 2) := by decide +kernel
theorem dX10_program_72 : decode cX10_program 72 = .ok (.iadd, 1) := by decide +kernel
theorem dX10_program_73 : decode cX10_program 73 = .ok (.iconst 4, 1) := by decide +kernel
theorem dX10_program_74 : decode cX10_program 74 = .ok (.invokevirtual 67, 3) := by decide +kernel
theorem dX10_program_77 : decode cX10_program 77 = .ok (.aload_n 0, 1) := by decide +kernel
theorem dX10_program_78 : decode cX10_program 78 = .ok (.iload_n 3, 1) := by decide +kernel
theorem dX10_program_79 : decode cX10_program 79 = .ok (.bipush 32, 2) := by decide +kernel
theorem dX10_program_81 : decode cX10_program 81 = .ok (.iadd, 1) := by decide +kernel
theorem dX10_program_82 : decode cX10_program 82 = .ok (.iload 4, 2) := by decide +kernel
theorem dX10_program_84 : decode cX10_program 84 = .ok (.iadd, 1) := by decide +kernel
theorem dX10_program_85 : decode cX10_program 85 = .ok (.iconst 1, 1) := by decide +kernel
theorem dX10_program_86 : decode cX10_program 86 = .ok (.invokevirtual 67, 3) := by decide +kernel
theorem dX10_program_89 : decode cX10_program 89 = .ok (.iinc 4 1, 3) := by decide +kernel
theorem dX10_program_92 : decode cX10_program 92 = .ok (.goto (-32), 3) := by decide +kernel
theorem dX10_program_95 : decode cX10_program 95 = .ok (.iconst 1, 1) := by decide +kernel
theorem dX10_program_96 : decode cX10_program 96 = .ok (.ireturn, 1) := by decide +kernel
theorem dX10_takeOut_0 : decode cX10_takeOut 0 = .ok (.aload_n 0, 1) := by decide +kernel
theorem dX10_takeOut_1 : decode cX10_takeOut 1 = .ok (.iconst 0, 1) := by decide +kernel
theorem dX10_takeOut_2 : decode cX10_takeOut 2 = .ok (.putfield 53, 3) := by decide +kernel
theorem dX10_takeOut_5 : decode cX10_takeOut 5 = .ok (.iload_n 1, 1) := by decide +kernel
theorem dX10_takeOut_6 : decode cX10_takeOut 6 = .ok (.invokestatic 132, 3) := by decide +kernel
theorem dX10_takeOut_9 : decode cX10_takeOut 9 = .ok (.ifCond .ne 5, 3) := by decide +kernel
theorem dX10_takeOut_12 : decode cX10_takeOut 12 = .ok (.iconst (-1), 1) := by decide +kernel
theorem dX10_takeOut_13 : decode cX10_takeOut 13 = .ok (.ireturn, 1) := by decide +kernel
theorem dX10_takeOut_14 : decode cX10_takeOut 14 = .ok (.aload_n 0, 1) := by decide +kernel
theorem dX10_takeOut_15 : decode cX10_takeOut 15 = .ok (.getfield 7, 3) := by decide +kernel
theorem dX10_takeOut_18 : decode cX10_takeOut 18 = .ok (.sipush 6240, 3) := by decide +kernel
theorem dX10_takeOut_21 : decode cX10_takeOut 21 = .ok (.bipush 62, 2) := by decide +kernel
theorem dX10_takeOut_23 : decode cX10_takeOut 23 = .ok (.iload_n 1, 1) := by decide +kernel
theorem dX10_takeOut_24 : decode cX10_takeOut 24 = .ok (.imul, 1) := by decide +kernel
theorem dX10_takeOut_25 : decode cX10_takeOut 25 = .ok (.iadd, 1) := by decide +kernel
theorem dX10_takeOut_26 : decode cX10_takeOut 26 = .ok (.iaload, 1) := by decide +kernel
theorem dX10_takeOut_27 : decode cX10_takeOut 27 = .ok (.istore_n 2, 1) := by decide +kernel
theorem dX10_takeOut_28 : decode cX10_takeOut 28 = .ok (.aload_n 0, 1) := by decide +kernel
theorem dX10_takeOut_29 : decode cX10_takeOut 29 = .ok (.sipush 6240, 3) := by decide +kernel
theorem dX10_takeOut_32 : decode cX10_takeOut 32 = .ok (.bipush 62, 2) := by decide +kernel
theorem dX10_takeOut_34 : decode cX10_takeOut 34 = .ok (.iload_n 1, 1) := by decide +kernel
theorem dX10_takeOut_35 : decode cX10_takeOut 35 = .ok (.imul, 1) := by decide +kernel
theorem dX10_takeOut_36 : decode cX10_takeOut 36 = .ok (.iadd, 1) := by decide +kernel
theorem dX10_takeOut_37 : decode cX10_takeOut 37 = .ok (.iconst 0, 1) := by decide +kernel
theorem dX10_takeOut_38 : decode cX10_takeOut 38 = .ok (.invokevirtual 67, 3) := by decide +kernel
theorem dX10_takeOut_41 : decode cX10_takeOut 41 = .ok (.iload_n 2, 1) := by decide +kernel
theorem dX10_takeOut_42 : decode cX10_takeOut 42 = .ok (.ireturn, 1) := by decide +kernel
theorem dX10_step_0 : decode cX10_step 0 = .ok (.aload_n 0, 1) := by decide +kernel
theorem dX10_step_1 : decode cX10_step 1 = .ok (.iconst 0, 1) := by decide +kernel
theorem dX10_step_2 : decode cX10_step 2 = .ok (.putfield 53, 3) := by decide +kernel
theorem dX10_step_5 : decode cX10_step 5 = .ok (.iload_n 1, 1) := by decide +kernel
theorem dX10_step_6 : decode cX10_step 6 = .ok (.invokestatic 132, 3) := by decide +kernel
theorem dX10_step_9 : decode cX10_step 9 = .ok (.ifCond .ne 5, 3) := by decide +kernel
theorem dX10_step_12 : decode cX10_step 12 = .ok (.iconst (-1), 1) := by decide +kernel
theorem dX10_step_13 : decode cX10_step 13 = .ok (.ireturn, 1) := by decide +kernel
theorem dX10_step_14 : decode cX10_step 14 = .ok (.iload_n 3, 1) := by decide +kernel
theorem dX10_step_15 : decode cX10_step 15 = .ok (.iconst 0, 1) := by decide +kernel
theorem dX10_step_16 : decode cX10_step 16 = .ok (.iconst 4, 1) := by decide +kernel
theorem dX10_step_17 : decode cX10_step 17 = .ok (.invokestatic 71, 3) := by decide +kernel
theorem dX10_step_20 : decode cX10_step 20 = .ok (.ifCond .eq 15, 3) := by decide +kernel
theorem dX10_step_23 : decode cX10_step 23 = .ok (.iload 4, 2) := by decide +kernel
theorem dX10_step_25 : decode cX10_step 25 = .ok (.iconst 1, 1) := by decide +kernel
theorem dX10_step_26 : decode cX10_step 26 = .ok (.sipush 200, 3) := by decide +kernel
theorem dX10_step_29 : decode cX10_step 29 = .ok (.invokestatic 71, 3) := by decide +kernel
theorem dX10_step_32 : decode cX10_step 32 = .ok (.ifCond .ne 6, 3) := by decide +kernel
theorem dX10_step_35 : decode cX10_step 35 = .ok (.bipush (-2), 2) := by decide +kernel
theorem dX10_step_37 : decode cX10_step 37 = .ok (.ireturn, 1) := by decide +kernel
theorem dX10_step_38 : decode cX10_step 38 = .ok (.sipush 6240, 3) := by decide +kernel
theorem dX10_step_41 : decode cX10_step 41 = .ok (.bipush 62, 2) := by decide +kernel
theorem dX10_step_43 : decode cX10_step 43 = .ok (.iload_n 1, 1) := by decide +kernel
theorem dX10_step_44 : decode cX10_step 44 = .ok (.imul, 1) := by decide +kernel
theorem dX10_step_45 : decode cX10_step 45 = .ok (.iadd, 1) := by decide +kernel
theorem dX10_step_46 : decode cX10_step 46 = .ok (.istore 5, 2) := by decide +kernel
theorem dX10_step_48 : decode cX10_step 48 = .ok (.aload_n 0, 1) := by decide +kernel
theorem dX10_step_49 : decode cX10_step 49 = .ok (.getfield 7, 3) := by decide +kernel
theorem dX10_step_52 : decode cX10_step 52 = .ok (.iload 5, 2) := by decide +kernel
theorem dX10_step_54 : decode cX10_step 54 = .ok (.iaload, 1) := by decide +kernel
theorem dX10_step_55 : decode cX10_step 55 = .ok (.ifCond .ne 9, 3) := by decide +kernel
theorem dX10_step_58 : decode cX10_step 58 = .ok (.aload_n 0, 1) := by decide +kernel
theorem dX10_step_59 : decode cX10_step 59 = .ok (.iconst 3, 1) := by decide +kernel
theorem dX10_step_60 : decode cX10_step 60 = .ok (.invokevirtual 117, 3) := by decide +kernel
theorem dX10_step_63 : decode cX10_step 63 = .ok (.ireturn, 1) := by decide +kernel
theorem dX10_step_64 : decode cX10_step 64 = .ok (.iload_n 2, 1) := by decide +kernel
theorem dX10_step_65 : decode cX10_step 65 = .ok (.iconst 0, 1) := by decide +kernel
theorem dX10_step_66 : decode cX10_step 66 = .ok (.aload_n 0, 1) := by decide +kernel
theorem dX10_step_67 : decode cX10_step 67 = .ok (.getfield 7, 3) := by decide +kernel
theorem dX10_step_70 : decode cX10_step 70 = .ok (.iload 5, 2) := by decide +kernel
theorem dX10_step_72 : decode cX10_step 72 = .ok (.iconst 1, 1) := by decide +kernel
theorem dX10_step_73 : decode cX10_step 73 = .ok (.iadd, 1) := by decide +kernel
theorem dX10_step_74 : decode cX10_step 74 = .ok (.iaload, 1) := by decide +kernel
theorem dX10_step_75 : decode cX10_step 75 = .ok (.iconst 1, 1) := by decide +kernel
theorem dX10_step_76 : decode cX10_step 76 = .ok (.isub, 1) := by decide +kernel
theorem dX10_step_77 : decode cX10_step 77 = .ok (.invokestatic 71, 3) := by decide +kernel
theorem dX10_step_80 : decode cX10_step 80 = .ok (.ifCond .ne 9, 3) := by decide +kernel
theorem dX10_step_83 : decode cX10_step 83 = .ok (.aload_n 0, 1) := by decide +kernel
theorem dX10_step_84 : decode cX10_step 84 = .ok (.iconst 4, 1) := by decide +kernel
theorem dX10_step_85 : decode cX10_step 85 = .ok (.invokevirtual 117, 3) := by decide +kernel
theorem dX10_step_88 : decode cX10_step 88 = .ok (.ireturn, 1) := by decide +kernel
theorem dX10_step_89 : decode cX10_step 89 = .ok (.aload_n 0, 1) := by decide +kernel
theorem dX10_step_90 : decode cX10_step 90 = .ok (.iload 5, 2) := by decide +kernel
theorem dX10_step_92 : decode cX10_step 92 = .ok (.iconst 2, 1) := by decide +kernel
theorem dX10_step_93 : decode cX10_step 93 = .ok (.iadd, 1) := by decide +kernel
theorem dX10_step_94 : decode cX10_step 94 = .ok (.iload_n 2, 1) := by decide +kernel
theorem dX10_step_95 : decode cX10_step 95 = .ok (.iadd, 1) := by decide +kernel
theorem dX10_step_96 : decode cX10_step 96 = .ok (.iload_n 3, 1) := by decide +kernel
theorem dX10_step_97 : decode cX10_step 97 = .ok (.invokevirtual 67, 3) := by decide +kernel
theorem dX10_step_100 : decode cX10_step 100 = .ok (.aload_n 0, 1) := by decide +kernel
theorem dX10_step_101 : decode cX10_step 101 = .ok (.iload 5, 2) := by decide +kernel
theorem dX10_step_103 : decode cX10_step 103 = .ok (.bipush 32, 2) := by decide +kernel
theorem dX10_step_105 : decode cX10_step 105 = .ok (.iadd, 1) := by decide +kernel
theorem dX10_step_106 : decode cX10_step 106 = .ok (.iload_n 2, 1) := by decide +kernel
theorem dX10_step_107 : decode cX10_step 107 = .ok (.iadd, 1) := by decide +kernel
theorem dX10_step_108 : decode cX10_step 108 = .ok (.iload 4, 2) := by decide +kernel
theorem dX10_step_110 : decode cX10_step 110 = .ok (.invokevirtual 67, 3) := by decide +kernel
theorem dX10_step_113 : decode cX10_step 113 = .ok (.iconst 1, 1) := by decide +kernel
theorem dX10_step_114 : decode cX10_step 114 = .ok (.ireturn, 1) := by decide +kernel
theorem dX10_minutes_0 : decode cX10_minutes 0 = .ok (.aload_n 0, 1) := by decide +kernel
theorem dX10_minutes_1 : decode cX10_minutes 1 = .ok (.iconst 0, 1) := by decide +kernel
theorem dX10_minutes_2 : decode cX10_minutes 2 = .ok (.putfield 53, 3) := by decide +kernel
theorem dX10_minutes_5 : decode cX10_minutes 5 = .ok (.iload_n 1, 1) := by decide +kernel
theorem dX10_minutes_6 : decode cX10_minutes 6 = .ok (.invokestatic 132, 3) := by decide +kernel
theorem dX10_minutes_9 : decode cX10_minutes 9 = .ok (.ifCond .ne 5, 3) := by decide +kernel
theorem dX10_minutes_12 : decode cX10_minutes 12 = .ok (.iconst (-1), 1) := by decide +kernel
theorem dX10_minutes_13 : decode cX10_minutes 13 = .ok (.ireturn, 1) := by decide +kernel
theorem dX10_minutes_14 : decode cX10_minutes 14 = .ok (.sipush 6240, 3) := by decide +kernel
theorem dX10_minutes_17 : decode cX10_minutes 17 = .ok (.bipush 62, 2) := by decide +kernel
theorem dX10_minutes_19 : decode cX10_minutes 19 = .ok (.iload_n 1, 1) := by decide +kernel
theorem dX10_minutes_20 : decode cX10_minutes 20 = .ok (.imul, 1) := by decide +kernel
theorem dX10_minutes_21 : decode cX10_minutes 21 = .ok (.iadd, 1) := by decide +kernel
theorem dX10_minutes_22 : decode cX10_minutes 22 = .ok (.istore_n 2, 1) := by decide +kernel
theorem dX10_minutes_23 : decode cX10_minutes 23 = .ok (.aload_n 0, 1) := by decide +kernel
theorem dX10_minutes_24 : decode cX10_minutes 24 = .ok (.getfield 7, 3) := by decide +kernel
theorem dX10_minutes_27 : decode cX10_minutes 27 = .ok (.iload_n 2, 1) := by decide +kernel
theorem dX10_minutes_28 : decode cX10_minutes 28 = .ok (.iaload, 1) := by decide +kernel
theorem dX10_minutes_29 : decode cX10_minutes 29 = .ok (.ifCond .ne 9, 3) := by decide +kernel
theorem dX10_minutes_32 : decode cX10_minutes 32 = .ok (.aload_n 0, 1) := by decide +kernel
theorem dX10_minutes_33 : decode cX10_minutes 33 = .ok (.iconst 3, 1) := by decide +kernel
theorem dX10_minutes_34 : decode cX10_minutes 34 = .ok (.invokevirtual 117, 3) := by decide +kernel
theorem dX10_minutes_37 : decode cX10_minutes 37 = .ok (.ireturn, 1) := by decide +kernel
theorem dX10_minutes_38 : decode cX10_minutes 38 = .ok (.iconst 0, 1) := by decide +kernel
theorem dX10_minutes_39 : decode cX10_minutes 39 = .ok (.istore_n 3, 1) := by decide +kernel
theorem dX10_minutes_40 : decode cX10_minutes 40 = .ok (.iconst 0, 1) := by decide +kernel
theorem dX10_minutes_41 : decode cX10_minutes 41 = .ok (.istore 4, 2) := by decide +kernel
theorem dX10_minutes_43 : decode cX10_minutes 43 = .ok (.iload 4, 2) := by decide +kernel
theorem dX10_minutes_45 : decode cX10_minutes 45 = .ok (.aload_n 0, 1) := by decide +kernel
theorem dX10_minutes_46 : decode cX10_minutes 46 = .ok (.getfield 7, 3) := by decide +kernel
theorem dX10_minutes_49 : decode cX10_minutes 49 = .ok (.iload_n 2, 1) := by decide +kernel
theorem dX10_minutes_50 : decode cX10_minutes 50 = .ok (.iconst 1, 1) := by decide +kernel
theorem dX10_minutes_51 : decode cX10_minutes 51 = .ok (.iadd, 1) := by decide +kernel
theorem dX10_minutes_52 : decode cX10_minutes 52 = .ok (.iaload, 1) := by decide +kernel
theorem dX10_minutes_53 : decode cX10_minutes 53 = .ok (.if_icmp .ge 24, 3) := by decide +kernel
theorem dX10_minutes_56 : decode cX10_minutes 56 = .ok (.iload_n 3, 1) := by decide +kernel
theorem dX10_minutes_57 : decode cX10_minutes 57 = .ok (.aload_n 0, 1) := by decide +kernel
theorem dX10_minutes_58 : decode cX10_minutes 58 = .ok (.getfield 7, 3) := by decide +kernel
theorem dX10_minutes_61 : decode cX10_minutes 61 = .ok (.iload_n 2, 1) := by decide +kernel
theorem dX10_minutes_62 : decode cX10_minutes 62 = .ok (.bipush 32, 2) := by decide +kernel
theorem dX10_minutes_64 : decode cX10_minutes 64 = .ok (.iadd, 1) := by decide +kernel
theorem dX10_minutes_65 : decode cX10_minutes 65 = .ok (.iload 4, 2) := by decide +kernel
theorem dX10_minutes_67 : decode cX10_minutes 67 = .ok (.iadd, 1) := by decide +kernel
theorem dX10_minutes_68 : decode cX10_minutes 68 = .ok (.iaload, 1) := by decide +kernel
theorem dX10_minutes_69 : decode cX10_minutes 69 = .ok (.iadd, 1) := by decide +kernel
theorem dX10_minutes_70 : decode cX10_minutes 70 = .ok (.istore_n 3, 1) := by decide +kernel
theorem dX10_minutes_71 : decode cX10_minutes 71 = .ok (.iinc 4 1, 3) := by decide +kernel
theorem dX10_minutes_74 : decode cX10_minutes 74 = .ok (.goto (-31), 3) := by decide +kernel
theorem dX10_minutes_77 : decode cX10_minutes 77 = .ok (.iload_n 3, 1) := by decide +kernel
theorem dX10_minutes_78 : decode cX10_minutes 78 = .ok (.ireturn, 1) := by decide +kernel
theorem dX10_isTube_0 : decode cX10_isTube 0 = .ok (.iload_n 0, 1) := by decide +kernel
theorem dX10_isTube_1 : decode cX10_isTube 1 = .ok (.iconst 0, 1) := by decide +kernel
theorem dX10_isTube_2 : decode cX10_isTube 2 = .ok (.bipush 11, 2) := by decide +kernel
theorem dX10_isTube_4 : decode cX10_isTube 4 = .ok (.invokestatic 71, 3) := by decide +kernel
theorem dX10_isTube_7 : decode cX10_isTube 7 = .ok (.ireturn, 1) := by decide +kernel
theorem dX10_tube_0 : decode cX10_tube 0 = .ok (.aload_n 0, 1) := by decide +kernel
theorem dX10_tube_1 : decode cX10_tube 1 = .ok (.iconst 0, 1) := by decide +kernel
theorem dX10_tube_2 : decode cX10_tube 2 = .ok (.putfield 53, 3) := by decide +kernel
theorem dX10_tube_5 : decode cX10_tube 5 = .ok (.iload_n 1, 1) := by decide +kernel
theorem dX10_tube_6 : decode cX10_tube 6 = .ok (.invokestatic 135, 3) := by decide +kernel
theorem dX10_tube_9 : decode cX10_tube 9 = .ok (.ifCond .ne 5, 3) := by decide +kernel
theorem dX10_tube_12 : decode cX10_tube 12 = .ok (.iconst (-1), 1) := by decide +kernel
theorem dX10_tube_13 : decode cX10_tube 13 = .ok (.ireturn, 1) := by decide +kernel
theorem dX10_tube_14 : decode cX10_tube 14 = .ok (.iload_n 2, 1) := by decide +kernel
theorem dX10_tube_15 : decode cX10_tube 15 = .ok (.iconst 1, 1) := by decide +kernel
theorem dX10_tube_16 : decode cX10_tube 16 = .ok (.sipush 5000, 3) := by decide +kernel
theorem dX10_tube_19 : decode cX10_tube 19 = .ok (.invokestatic 71, 3) := by decide +kernel
theorem dX10_tube_22 : decode cX10_tube 22 = .ok (.ifCond .eq 14, 3) := by decide +kernel
theorem dX10_tube_25 : decode cX10_tube 25 = .ok (.iload_n 3, 1) := by decide +kernel
theorem dX10_tube_26 : decode cX10_tube 26 = .ok (.iconst 0, 1) := by decide +kernel
theorem dX10_tube_27 : decode cX10_tube 27 = .ok (.sipush 1000, 3) := by decide +kernel
theorem dX10_tube_30 : decode cX10_tube 30 = .ok (.invokestatic 71, 3) := by decide +kernel
theorem dX10_tube_33 : decode cX10_tube 33 = .ok (.ifCond .ne 6, 3) := by decide +kernel
theorem dX10_tube_36 : decode cX10_tube 36 = .ok (.bipush (-2), 2) := by decide +kernel
theorem dX10_tube_38 : decode cX10_tube 38 = .ok (.ireturn, 1) := by decide +kernel
theorem dX10_tube_39 : decode cX10_tube 39 = .ok (.iconst 0, 1) := by decide +kernel
theorem dX10_tube_40 : decode cX10_tube 40 = .ok (.istore 4, 2) := by decide +kernel
theorem dX10_tube_42 : decode cX10_tube 42 = .ok (.iconst 0, 1) := by decide +kernel
theorem dX10_tube_43 : decode cX10_tube 43 = .ok (.istore 5, 2) := by decide +kernel
theorem dX10_tube_45 : decode cX10_tube 45 = .ok (.iload 5, 2) := by decide +kernel
theorem dX10_tube_47 : decode cX10_tube 47 = .ok (.bipush 12, 2) := by decide +kernel
theorem dX10_tube_49 : decode cX10_tube 49 = .ok (.if_icmp .ge 42, 3) := by decide +kernel
theorem dX10_tube_52 : decode cX10_tube 52 = .ok (.iload 4, 2) := by decide +kernel
theorem dX10_tube_54 : decode cX10_tube 54 = .ok (.iload 5, 2) := by decide +kernel
theorem dX10_tube_56 : decode cX10_tube 56 = .ok (.iload_n 1, 1) := by decide +kernel
theorem dX10_tube_57 : decode cX10_tube 57 = .ok (.if_icmp .eq 24, 3) := by decide +kernel
theorem dX10_tube_60 : decode cX10_tube 60 = .ok (.aload_n 0, 1) := by decide +kernel
theorem dX10_tube_61 : decode cX10_tube 61 = .ok (.getfield 7, 3) := by decide +kernel
theorem dX10_tube_64 : decode cX10_tube 64 = .ok (.sipush 8720, 3) := by decide +kernel
theorem dX10_tube_67 : decode cX10_tube 67 = .ok (.iconst 2, 1) := by decide +kernel
theorem dX10_tube_68 : decode cX10_tube 68 = .ok (.iload 5, 2) := by decide +kernel
theorem dX10_tube_70 : decode cX10_tube 70 = .ok (.imul, 1) := by decide +kernel
theorem dX10_tube_71 : decode cX10_tube 71 = .ok (.iadd, 1) := by decide +kernel
theorem dX10_tube_72 : decode cX10_tube 72 = .ok (.iaload, 1) := by decide +kernel
theorem dX10_tube_73 : decode cX10_tube 73 = .ok (.iload_n 2, 1) := by decide +kernel
theorem dX10_tube_74 : decode cX10_tube 74 = .ok (.if_icmp .ne 7, 3) := by decide +kernel
theorem dX10_tube_77 : decode cX10_tube 77 = .ok (.iconst 1, 1) := by decide +kernel
theorem dX10_tube_78 : decode cX10_tube 78 = .ok (.goto 4, 3) := by decide +kernel
theorem dX10_tube_81 : decode cX10_tube 81 = .ok (.iconst 0, 1) := by decide +kernel
theorem dX10_tube_82 : decode cX10_tube 82 = .ok (.ior, 1) := by decide +kernel
theorem dX10_tube_83 : decode cX10_tube 83 = .ok (.istore 4, 2) := by decide +kernel
theorem dX10_tube_85 : decode cX10_tube 85 = .ok (.iinc 5 1, 3) := by decide +kernel
theorem dX10_tube_88 : decode cX10_tube 88 = .ok (.goto (-43), 3) := by decide +kernel
theorem dX10_tube_91 : decode cX10_tube 91 = .ok (.iconst 0, 1) := by decide +kernel
theorem dX10_tube_92 : decode cX10_tube 92 = .ok (.istore 5, 2) := by decide +kernel
theorem dX10_tube_94 : decode cX10_tube 94 = .ok (.iload 5, 2) := by decide +kernel
theorem dX10_tube_96 : decode cX10_tube 96 = .ok (.bipush 60, 2) := by decide +kernel
theorem dX10_tube_98 : decode cX10_tube 98 = .ok (.if_icmp .ge 28, 3) := by decide +kernel
theorem dX10_tube_101 : decode cX10_tube 101 = .ok (.iload 4, 2) := by decide +kernel
theorem dX10_tube_103 : decode cX10_tube 103 = .ok (.aload_n 0, 1) := by decide +kernel
theorem dX10_tube_104 : decode cX10_tube 104 = .ok (.iload 5, 2) := by decide +kernel
theorem dX10_tube_106 : decode cX10_tube 106 = .ok (.invokevirtual 123, 3) := by decide +kernel
theorem dX10_tube_109 : decode cX10_tube 109 = .ok (.ifCond .le 7, 3) := by decide +kernel
theorem dX10_tube_112 : decode cX10_tube 112 = .ok (.iconst 1, 1) := by decide +kernel
theorem dX10_tube_113 : decode cX10_tube 113 = .ok (.goto 4, 3) := by decide +kernel
theorem dX10_tube_116 : decode cX10_tube 116 = .ok (.iconst 0, 1) := by decide +kernel
theorem dX10_tube_117 : decode cX10_tube 117 = .ok (.ior, 1) := by decide +kernel
theorem dX10_tube_118 : decode cX10_tube 118 = .ok (.istore 4, 2) := by decide +kernel
theorem dX10_tube_120 : decode cX10_tube 120 = .ok (.iinc 5 1, 3) := by decide +kernel
theorem dX10_tube_123 : decode cX10_tube 123 = .ok (.goto (-29), 3) := by decide +kernel
theorem dX10_tube_126 : decode cX10_tube 126 = .ok (.iload 4, 2) := by decide +kernel
theorem dX10_tube_128 : decode cX10_tube 128 = .ok (.ifCond .eq 6, 3) := by decide +kernel
theorem dX10_tube_131 : decode cX10_tube 131 = .ok (.bipush (-3), 2) := by decide +kernel
theorem dX10_tube_133 : decode cX10_tube 133 = .ok (.ireturn, 1) := by decide +kernel
theorem dX10_tube_134 : decode cX10_tube 134 = .ok (.aload_n 0, 1) := by decide +kernel
theorem dX10_tube_135 : decode cX10_tube 135 = .ok (.sipush 8720, 3) := by decide +kernel
theorem dX10_tube_138 : decode cX10_tube 138 = .ok (.iconst 2, 1) := by decide +kernel
theorem dX10_tube_139 : decode cX10_tube 139 = .ok (.iload_n 1, 1) := by decide +kernel
theorem dX10_tube_140 : decode cX10_tube 140 = .ok (.imul, 1) := by decide +kernel
theorem dX10_tube_141 : decode cX10_tube 141 = .ok (.iadd, 1) := by decide +kernel
theorem dX10_tube_142 : decode cX10_tube 142 = .ok (.iload_n 2, 1) := by decide +kernel
theorem dX10_tube_143 : decode cX10_tube 143 = .ok (.invokevirtual 67, 3) := by decide +kernel
theorem dX10_tube_146 : decode cX10_tube 146 = .ok (.aload_n 0, 1) := by decide +kernel
theorem dX10_tube_147 : decode cX10_tube 147 = .ok (.sipush 8720, 3) := by decide +kernel
theorem dX10_tube_150 : decode cX10_tube 150 = .ok (.iconst 2, 1) := by decide +kernel
theorem dX10_tube_151 : decode cX10_tube 151 = .ok (.iload_n 1, 1) := by decide +kernel
theorem dX10_tube_152 : decode cX10_tube 152 = .ok (.imul, 1) := by decide +kernel
theorem dX10_tube_153 : decode cX10_tube 153 = .ok (.iadd, 1) := by decide +kernel
theorem dX10_tube_154 : decode cX10_tube 154 = .ok (.iconst 1, 1) := by decide +kernel
theorem dX10_tube_155 : decode cX10_tube 155 = .ok (.iadd, 1) := by decide +kernel
theorem dX10_tube_156 : decode cX10_tube 156 = .ok (.iload_n 3, 1) := by decide +kernel
theorem dX10_tube_157 : decode cX10_tube 157 = .ok (.invokevirtual 67, 3) := by decide +kernel
theorem dX10_tube_160 : decode cX10_tube 160 = .ok (.iconst 1, 1) := by decide +kernel
theorem dX10_tube_161 : decode cX10_tube 161 = .ok (.ireturn, 1) := by decide +kernel
theorem dX10_coin_0 : decode cX10_coin 0 = .ok (.aload_n 0, 1) := by decide +kernel
theorem dX10_coin_1 : decode cX10_coin 1 = .ok (.iconst 0, 1) := by decide +kernel
theorem dX10_coin_2 : decode cX10_coin 2 = .ok (.putfield 53, 3) := by decide +kernel
theorem dX10_coin_5 : decode cX10_coin 5 = .ok (.iload_n 1, 1) := by decide +kernel
theorem dX10_coin_6 : decode cX10_coin 6 = .ok (.invokestatic 106, 3) := by decide +kernel
theorem dX10_coin_9 : decode cX10_coin 9 = .ok (.ifCond .eq 10, 3) := by decide +kernel
theorem dX10_coin_12 : decode cX10_coin 12 = .ok (.iload_n 2, 1) := by decide +kernel
theorem dX10_coin_13 : decode cX10_coin 13 = .ok (.invokestatic 135, 3) := by decide +kernel
theorem dX10_coin_16 : decode cX10_coin 16 = .ok (.ifCond .ne 5, 3) := by decide +kernel
theorem dX10_coin_19 : decode cX10_coin 19 = .ok (.iconst (-1), 1) := by decide +kernel
theorem dX10_coin_20 : decode cX10_coin 20 = .ok (.ireturn, 1) := by decide +kernel
theorem dX10_coin_21 : decode cX10_coin 21 = .ok (.iload_n 3, 1) := by decide +kernel
theorem dX10_coin_22 : decode cX10_coin 22 = .ok (.iconst 1, 1) := by decide +kernel
theorem dX10_coin_23 : decode cX10_coin 23 = .ok (.bipush 50, 2) := by decide +kernel
theorem dX10_coin_25 : decode cX10_coin 25 = .ok (.invokestatic 71, 3) := by decide +kernel
theorem dX10_coin_28 : decode cX10_coin 28 = .ok (.ifCond .ne 6, 3) := by decide +kernel
theorem dX10_coin_31 : decode cX10_coin 31 = .ok (.bipush (-2), 2) := by decide +kernel
theorem dX10_coin_33 : decode cX10_coin 33 = .ok (.ireturn, 1) := by decide +kernel
theorem dX10_coin_34 : decode cX10_coin 34 = .ok (.aload_n 0, 1) := by decide +kernel
theorem dX10_coin_35 : decode cX10_coin 35 = .ok (.getfield 7, 3) := by decide +kernel
theorem dX10_coin_38 : decode cX10_coin 38 = .ok (.sipush 8720, 3) := by decide +kernel
theorem dX10_coin_41 : decode cX10_coin 41 = .ok (.iconst 2, 1) := by decide +kernel
theorem dX10_coin_42 : decode cX10_coin 42 = .ok (.iload_n 2, 1) := by decide +kernel
theorem dX10_coin_43 : decode cX10_coin 43 = .ok (.imul, 1) := by decide +kernel
theorem dX10_coin_44 : decode cX10_coin 44 = .ok (.iadd, 1) := by decide +kernel
theorem dX10_coin_45 : decode cX10_coin 45 = .ok (.iaload, 1) := by decide +kernel
theorem dX10_coin_46 : decode cX10_coin 46 = .ok (.ifCond .ne 6, 3) := by decide +kernel
theorem dX10_coin_49 : decode cX10_coin 49 = .ok (.bipush (-3), 2) := by decide +kernel
theorem dX10_coin_51 : decode cX10_coin 51 = .ok (.ireturn, 1) := by decide +kernel
theorem dX10_coin_52 : decode cX10_coin 52 = .ok (.aload_n 0, 1) := by decide +kernel
theorem dX10_coin_53 : decode cX10_coin 53 = .ok (.iload_n 1, 1) := by decide +kernel
theorem dX10_coin_54 : decode cX10_coin 54 = .ok (.invokevirtual 110, 3) := by decide +kernel
theorem dX10_coin_57 : decode cX10_coin 57 = .ok (.ifCond .ne 9, 3) := by decide +kernel
theorem dX10_coin_60 : decode cX10_coin 60 = .ok (.aload_n 0, 1) := by decide +kernel
theorem dX10_coin_61 : decode cX10_coin 61 = .ok (.iconst 1, 1) := by decide +kernel
theorem dX10_coin_62 : decode cX10_coin 62 = .ok (.invokevirtual 117, 3) := by decide +kernel
theorem dX10_coin_65 : decode cX10_coin 65 = .ok (.ireturn, 1) := by decide +kernel
theorem dX10_coin_66 : decode cX10_coin 66 = .ok (.aload_n 0, 1) := by decide +kernel
theorem dX10_coin_67 : decode cX10_coin 67 = .ok (.getfield 7, 3) := by decide +kernel
theorem dX10_coin_70 : decode cX10_coin 70 = .ok (.sipush 8720, 3) := by decide +kernel
theorem dX10_coin_73 : decode cX10_coin 73 = .ok (.iconst 2, 1) := by decide +kernel
theorem dX10_coin_74 : decode cX10_coin 74 = .ok (.iload_n 2, 1) := by decide +kernel
theorem dX10_coin_75 : decode cX10_coin 75 = .ok (.imul, 1) := by decide +kernel
theorem dX10_coin_76 : decode cX10_coin 76 = .ok (.iadd, 1) := by decide +kernel
theorem dX10_coin_77 : decode cX10_coin 77 = .ok (.iconst 1, 1) := by decide +kernel
theorem dX10_coin_78 : decode cX10_coin 78 = .ok (.iadd, 1) := by decide +kernel
theorem dX10_coin_79 : decode cX10_coin 79 = .ok (.iaload, 1) := by decide +kernel
theorem dX10_coin_80 : decode cX10_coin 80 = .ok (.iload_n 3, 1) := by decide +kernel
theorem dX10_coin_81 : decode cX10_coin 81 = .ok (.iadd, 1) := by decide +kernel
theorem dX10_coin_82 : decode cX10_coin 82 = .ok (.sipush 1000, 3) := by decide +kernel
theorem dX10_coin_85 : decode cX10_coin 85 = .ok (.if_icmp .le 6, 3) := by decide +kernel
theorem dX10_coin_88 : decode cX10_coin 88 = .ok (.bipush (-4), 2) := by decide +kernel
theorem dX10_coin_90 : decode cX10_coin 90 = .ok (.ireturn, 1) := by decide +kernel
theorem dX10_coin_91 : decode cX10_coin 91 = .ok (.aload_n 0, 1) := by decide +kernel
theorem dX10_coin_92 : decode cX10_coin 92 = .ok (.sipush 8720, 3) := by decide +kernel
theorem dX10_coin_95 : decode cX10_coin 95 = .ok (.iconst 2, 1) := by decide +kernel
theorem dX10_coin_96 : decode cX10_coin 96 = .ok (.iload_n 2, 1) := by decide +kernel
theorem dX10_coin_97 : decode cX10_coin 97 = .ok (.imul, 1) := by decide +kernel
theorem dX10_coin_98 : decode cX10_coin 98 = .ok (.iadd, 1) := by decide +kernel
theorem dX10_coin_99 : decode cX10_coin 99 = .ok (.iconst 1, 1) := by decide +kernel
theorem dX10_coin_100 : decode cX10_coin 100 = .ok (.iadd, 1) := by decide +kernel
theorem dX10_coin_101 : decode cX10_coin 101 = .ok (.aload_n 0, 1) := by decide +kernel
theorem dX10_coin_102 : decode cX10_coin 102 = .ok (.getfield 7, 3) := by decide +kernel
theorem dX10_coin_105 : decode cX10_coin 105 = .ok (.sipush 8720, 3) := by decide +kernel
theorem dX10_coin_108 : decode cX10_coin 108 = .ok (.iconst 2, 1) := by decide +kernel
theorem dX10_coin_109 : decode cX10_coin 109 = .ok (.iload_n 2, 1) := by decide +kernel
theorem dX10_coin_110 : decode cX10_coin 110 = .ok (.imul, 1) := by decide +kernel
theorem dX10_coin_111 : decode cX10_coin 111 = .ok (.iadd, 1) := by decide +kernel
theorem dX10_coin_112 : decode cX10_coin 112 = .ok (.iconst 1, 1) := by decide +kernel
theorem dX10_coin_113 : decode cX10_coin 113 = .ok (.iadd, 1) := by decide +kernel
theorem dX10_coin_114 : decode cX10_coin 114 = .ok (.iaload, 1) := by decide +kernel
theorem dX10_coin_115 : decode cX10_coin 115 = .ok (.iload_n 3, 1) := by decide +kernel
theorem dX10_coin_116 : decode cX10_coin 116 = .ok (.iadd, 1) := by decide +kernel
theorem dX10_coin_117 : decode cX10_coin 117 = .ok (.invokevirtual 67, 3) := by decide +kernel
theorem dX10_coin_120 : decode cX10_coin 120 = .ok (.aload_n 0, 1) := by decide +kernel
theorem dX10_coin_121 : decode cX10_coin 121 = .ok (.iload_n 1, 1) := by decide +kernel
theorem dX10_coin_122 : decode cX10_coin 122 = .ok (.bipush 14, 2) := by decide +kernel
theorem dX10_coin_124 : decode cX10_coin 124 = .ok (.iload_n 2, 1) := by decide +kernel
theorem dX10_coin_125 : decode cX10_coin 125 = .ok (.iadd, 1) := by decide +kernel
theorem dX10_coin_126 : decode cX10_coin 126 = .ok (.aload_n 0, 1) := by decide +kernel
theorem dX10_coin_127 : decode cX10_coin 127 = .ok (.iload_n 1, 1) := by decide +kernel
theorem dX10_coin_128 : decode cX10_coin 128 = .ok (.bipush 14, 2) := by decide +kernel
theorem dX10_coin_130 : decode cX10_coin 130 = .ok (.iload_n 2, 1) := by decide +kernel
theorem dX10_coin_131 : decode cX10_coin 131 = .ok (.iadd, 1) := by decide +kernel
theorem dX10_coin_132 : decode cX10_coin 132 = .ok (.invokevirtual 75, 3) := by decide +kernel
theorem dX10_coin_135 : decode cX10_coin 135 = .ok (.iload_n 3, 1) := by decide +kernel
theorem dX10_coin_136 : decode cX10_coin 136 = .ok (.iadd, 1) := by decide +kernel
theorem dX10_coin_137 : decode cX10_coin 137 = .ok (.invokevirtual 113, 3) := by decide +kernel
theorem dX10_coin_140 : decode cX10_coin 140 = .ok (.aload_n 0, 1) := by decide +kernel
theorem dX10_coin_141 : decode cX10_coin 141 = .ok (.sipush 11346, 3) := by decide +kernel
theorem dX10_coin_144 : decode cX10_coin 144 = .ok (.aload_n 0, 1) := by decide +kernel
theorem dX10_coin_145 : decode cX10_coin 145 = .ok (.getfield 7, 3) := by decide +kernel
theorem dX10_coin_148 : decode cX10_coin 148 = .ok (.sipush 11346, 3) := by decide +kernel
theorem dX10_coin_151 : decode cX10_coin 151 = .ok (.iaload, 1) := by decide +kernel
theorem dX10_coin_152 : decode cX10_coin 152 = .ok (.iload_n 3, 1) := by decide +kernel
theorem dX10_coin_153 : decode cX10_coin 153 = .ok (.aload_n 0, 1) := by decide +kernel
theorem dX10_coin_154 : decode cX10_coin 154 = .ok (.getfield 7, 3) := by decide +kernel
theorem dX10_coin_157 : decode cX10_coin 157 = .ok (.sipush 8720, 3) := by decide +kernel
theorem dX10_coin_160 : decode cX10_coin 160 = .ok (.iconst 2, 1) := by decide +kernel
theorem dX10_coin_161 : decode cX10_coin 161 = .ok (.iload_n 2, 1) := by decide +kernel
theorem dX10_coin_162 : decode cX10_coin 162 = .ok (.imul, 1) := by decide +kernel
theorem dX10_coin_163 : decode cX10_coin 163 = .ok (.iadd, 1) := by decide +kernel
theorem dX10_coin_164 : decode cX10_coin 164 = .ok (.iaload, 1) := by decide +kernel
theorem dX10_coin_165 : decode cX10_coin 165 = .ok (.imul, 1) := by decide +kernel
theorem dX10_coin_166 : decode cX10_coin 166 = .ok (.iadd, 1) := by decide +kernel
theorem dX10_coin_167 : decode cX10_coin 167 = .ok (.invokevirtual 67, 3) := by decide +kernel
theorem dX10_coin_170 : decode cX10_coin 170 = .ok (.aload_n 0, 1) := by decide +kernel
theorem dX10_coin_171 : decode cX10_coin 171 = .ok (.iload_n 1, 1) := by decide +kernel
theorem dX10_coin_172 : decode cX10_coin 172 = .ok (.invokevirtual 123, 3) := by decide +kernel
theorem dX10_coin_175 : decode cX10_coin 175 = .ok (.ireturn, 1) := by decide +kernel
theorem dX10_giveBack_0 : decode cX10_giveBack 0 = .ok (.aload_n 0, 1) := by decide +kernel
theorem dX10_giveBack_1 : decode cX10_giveBack 1 = .ok (.iload_n 1, 1) := by decide +kernel
theorem dX10_giveBack_2 : decode cX10_giveBack 2 = .ok (.invokevirtual 123, 3) := by decide +kernel
theorem dX10_giveBack_5 : decode cX10_giveBack 5 = .ok (.istore_n 2, 1) := by decide +kernel
theorem dX10_giveBack_6 : decode cX10_giveBack 6 = .ok (.iconst 0, 1) := by decide +kernel
theorem dX10_giveBack_7 : decode cX10_giveBack 7 = .ok (.istore_n 3, 1) := by decide +kernel
theorem dX10_giveBack_8 : decode cX10_giveBack 8 = .ok (.iload_n 3, 1) := by decide +kernel
theorem dX10_giveBack_9 : decode cX10_giveBack 9 = .ok (.bipush 12, 2) := by decide +kernel
theorem dX10_giveBack_11 : decode cX10_giveBack 11 = .ok (.if_icmp .ge 56, 3) := by decide +kernel
theorem dX10_giveBack_14 : decode cX10_giveBack 14 = .ok (.aload_n 0, 1) := by decide +kernel
theorem dX10_giveBack_15 : decode cX10_giveBack 15 = .ok (.sipush 8720, 3) := by decide +kernel
theorem dX10_giveBack_18 : decode cX10_giveBack 18 = .ok (.iconst 2, 1) := by decide +kernel
theorem dX10_giveBack_19 : decode cX10_giveBack 19 = .ok (.iload_n 3, 1) := by decide +kernel
theorem dX10_giveBack_20 : decode cX10_giveBack 20 = .ok (.imul, 1) := by decide +kernel
theorem dX10_giveBack_21 : decode cX10_giveBack 21 = .ok (.iadd, 1) := by decide +kernel
theorem dX10_giveBack_22 : decode cX10_giveBack 22 = .ok (.iconst 1, 1) := by decide +kernel
theorem dX10_giveBack_23 : decode cX10_giveBack 23 = .ok (.iadd, 1) := by decide +kernel
theorem dX10_giveBack_24 : decode cX10_giveBack 24 = .ok (.aload_n 0, 1) := by decide +kernel
theorem dX10_giveBack_25 : decode cX10_giveBack 25 = .ok (.getfield 7, 3) := by decide +kernel
theorem dX10_giveBack_28 : decode cX10_giveBack 28 = .ok (.sipush 8720, 3) := by decide +kernel
theorem dX10_giveBack_31 : decode cX10_giveBack 31 = .ok (.iconst 2, 1) := by decide +kernel
theorem dX10_giveBack_32 : decode cX10_giveBack 32 = .ok (.iload_n 3, 1) := by decide +kernel
theorem dX10_giveBack_33 : decode cX10_giveBack 33 = .ok (.imul, 1) := by decide +kernel
theorem dX10_giveBack_34 : decode cX10_giveBack 34 = .ok (.iadd, 1) := by decide +kernel
theorem dX10_giveBack_35 : decode cX10_giveBack 35 = .ok (.iconst 1, 1) := by decide +kernel
theorem dX10_giveBack_36 : decode cX10_giveBack 36 = .ok (.iadd, 1) := by decide +kernel
theorem dX10_giveBack_37 : decode cX10_giveBack 37 = .ok (.iaload, 1) := by decide +kernel
theorem dX10_giveBack_38 : decode cX10_giveBack 38 = .ok (.aload_n 0, 1) := by decide +kernel
theorem dX10_giveBack_39 : decode cX10_giveBack 39 = .ok (.iload_n 1, 1) := by decide +kernel
theorem dX10_giveBack_40 : decode cX10_giveBack 40 = .ok (.bipush 14, 2) := by decide +kernel
theorem dX10_giveBack_42 : decode cX10_giveBack 42 = .ok (.iload_n 3, 1) := by decide +kernel
theorem dX10_giveBack_43 : decode cX10_giveBack 43 = .ok (.iadd, 1) := by decide +kernel
theorem dX10_giveBack_44 : decode cX10_giveBack 44 = .ok (.invokevirtual 75, 3) := by decide +kernel
theorem dX10_giveBack_47 : decode cX10_giveBack 47 = .ok (.isub, 1) := by decide +kernel
theorem dX10_giveBack_48 : decode cX10_giveBack 48 = .ok (.invokevirtual 67, 3) := by decide +kernel
theorem dX10_giveBack_51 : decode cX10_giveBack 51 = .ok (.aload_n 0, 1) := by decide +kernel
theorem dX10_giveBack_52 : decode cX10_giveBack 52 = .ok (.iload_n 1, 1) := by decide +kernel
theorem dX10_giveBack_53 : decode cX10_giveBack 53 = .ok (.bipush 14, 2) := by decide +kernel
theorem dX10_giveBack_55 : decode cX10_giveBack 55 = .ok (.iload_n 3, 1) := by decide +kernel
theorem dX10_giveBack_56 : decode cX10_giveBack 56 = .ok (.iadd, 1) := by decide +kernel
theorem dX10_giveBack_57 : decode cX10_giveBack 57 = .ok (.iconst 0, 1) := by decide +kernel
theorem dX10_giveBack_58 : decode cX10_giveBack 58 = .ok (.invokevirtual 113, 3) := by decide +kernel
theorem dX10_giveBack_61 : decode cX10_giveBack 61 = .ok (.iinc 3 1, 3) := by decide +kernel
theorem dX10_giveBack_64 : decode cX10_giveBack 64 = .ok (.goto (-56), 3) := by decide +kernel
theorem dX10_giveBack_67 : decode cX10_giveBack 67 = .ok (.aload_n 0, 1) := by decide +kernel
theorem dX10_giveBack_68 : decode cX10_giveBack 68 = .ok (.sipush 11347, 3) := by decide +kernel
theorem dX10_giveBack_71 : decode cX10_giveBack 71 = .ok (.aload_n 0, 1) := by decide +kernel
theorem dX10_giveBack_72 : decode cX10_giveBack 72 = .ok (.getfield 7, 3) := by decide +kernel
theorem dX10_giveBack_75 : decode cX10_giveBack 75 = .ok (.sipush 11347, 3) := by decide +kernel
theorem dX10_giveBack_78 : decode cX10_giveBack 78 = .ok (.iaload, 1) := by decide +kernel
theorem dX10_giveBack_79 : decode cX10_giveBack 79 = .ok (.iload_n 2, 1) := by decide +kernel
theorem dX10_giveBack_80 : decode cX10_giveBack 80 = .ok (.iadd, 1) := by decide +kernel
theorem dX10_giveBack_81 : decode cX10_giveBack 81 = .ok (.invokevirtual 67, 3) := by decide +kernel
theorem dX10_giveBack_84 : decode cX10_giveBack 84 = .ok (.iload_n 2, 1) := by decide +kernel
theorem dX10_giveBack_85 : decode cX10_giveBack 85 = .ok (.ireturn, 1) := by decide +kernel
theorem dX10_orderTubes_0 : decode cX10_orderTubes 0 = .ok (.aload_n 0, 1) := by decide +kernel
theorem dX10_orderTubes_1 : decode cX10_orderTubes 1 = .ok (.iconst 0, 1) := by decide +kernel
theorem dX10_orderTubes_2 : decode cX10_orderTubes 2 = .ok (.putfield 138, 3) := by decide +kernel
theorem dX10_orderTubes_5 : decode cX10_orderTubes 5 = .ok (.iconst 0, 1) := by decide +kernel
theorem dX10_orderTubes_6 : decode cX10_orderTubes 6 = .ok (.istore_n 2, 1) := by decide +kernel
theorem dX10_orderTubes_7 : decode cX10_orderTubes 7 = .ok (.iload_n 2, 1) := by decide +kernel
theorem dX10_orderTubes_8 : decode cX10_orderTubes 8 = .ok (.bipush 12, 2) := by decide +kernel
theorem dX10_orderTubes_10 : decode cX10_orderTubes 10 = .ok (.if_icmp .ge 172, 3) := by decide +kernel
theorem dX10_orderTubes_13 : decode cX10_orderTubes 13 = .ok (.aload_n 0, 1) := by decide +kernel
theorem dX10_orderTubes_14 : decode cX10_orderTubes 14 = .ok (.getfield 38, 3) := by decide +kernel
theorem dX10_orderTubes_17 : decode cX10_orderTubes 17 = .ok (.iload_n 2, 1) := by decide +kernel
theorem dX10_orderTubes_18 : decode cX10_orderTubes 18 = .ok (.aload_n 0, 1) := by decide +kernel
theorem dX10_orderTubes_19 : decode cX10_orderTubes 19 = .ok (.getfield 7, 3) := by decide +kernel
theorem dX10_orderTubes_22 : decode cX10_orderTubes 22 = .ok (.sipush 8720, 3) := by decide +kernel
theorem dX10_orderTubes_25 : decode cX10_orderTubes 25 = .ok (.iconst 2, 1) := by decide +kernel
theorem dX10_orderTubes_26 : decode cX10_orderTubes 26 = .ok (.iload_n 2, 1) := by decide +kernel
theorem dX10_orderTubes_27 : decode cX10_orderTubes 27 = .ok (.imul, 1) := by decide +kernel
theorem dX10_orderTubes_28 : decode cX10_orderTubes 28 = .ok (.iadd, 1) := by decide +kernel
theorem dX10_orderTubes_29 : decode cX10_orderTubes 29 = .ok (.iconst 1, 1) := by decide +kernel
theorem dX10_orderTubes_30 : decode cX10_orderTubes 30 = .ok (.iadd, 1) := by decide +kernel
theorem dX10_orderTubes_31 : decode cX10_orderTubes 31 = .ok (.iaload, 1) := by decide +kernel
theorem dX10_orderTubes_32 : decode cX10_orderTubes 32 = .ok (.iastore, 1) := by decide +kernel
theorem dX10_orderTubes_33 : decode cX10_orderTubes 33 = .ok (.iconst 0, 1) := by decide +kernel
theorem dX10_orderTubes_34 : decode cX10_orderTubes 34 = .ok (.istore_n 3, 1) := by decide +kernel
theorem dX10_orderTubes_35 : decode cX10_orderTubes 35 = .ok (.iload_n 3, 1) := by decide +kernel
theorem dX10_orderTubes_36 : decode cX10_orderTubes 36 = .ok (.bipush 60, 2) := by decide +kernel
theorem dX10_orderTubes_38 : decode cX10_orderTubes 38 = .ok (.if_icmp .ge 36, 3) := by decide +kernel
theorem dX10_orderTubes_41 : decode cX10_orderTubes 41 = .ok (.aload_n 0, 1) := by decide +kernel
theorem dX10_orderTubes_42 : decode cX10_orderTubes 42 = .ok (.getfield 38, 3) := by decide +kernel
theorem dX10_orderTubes_45 : decode cX10_orderTubes 45 = .ok (.iload_n 2, 1) := by decide +kernel
theorem dX10_orderTubes_46 : decode cX10_orderTubes 46 = .ok (.dup2, 1) := by decide +kernel
theorem dX10_orderTubes_47 : decode cX10_orderTubes 47 = .ok (.iaload, 1) := by decide +kernel
theorem dX10_orderTubes_48 : decode cX10_orderTubes 48 = .ok (.iload_n 3, 1) := by decide +kernel
theorem dX10_orderTubes_49 : decode cX10_orderTubes 49 = .ok (.iload_n 1, 1) := by decide +kernel
theorem dX10_orderTubes_50 : decode cX10_orderTubes 50 = .ok (.if_icmp .ne 7, 3) := by decide +kernel
theorem dX10_orderTubes_53 : decode cX10_orderTubes 53 = .ok (.iconst 0, 1) := by decide +kernel
theorem dX10_orderTubes_54 : decode cX10_orderTubes 54 = .ok (.goto 12, 3) := by decide +kernel
theorem dX10_orderTubes_57 : decode cX10_orderTubes 57 = .ok (.aload_n 0, 1) := by decide +kernel
theorem dX10_orderTubes_58 : decode cX10_orderTubes 58 = .ok (.iload_n 3, 1) := by decide +kernel
theorem dX10_orderTubes_59 : decode cX10_orderTubes 59 = .ok (.bipush 14, 2) := by decide +kernel
theorem dX10_orderTubes_61 : decode cX10_orderTubes 61 = .ok (.iload_n 2, 1) := by decide +kernel
theorem dX10_orderTubes_62 : decode cX10_orderTubes 62 = .ok (.iadd, 1) := by decide +kernel
theorem dX10_orderTubes_63 : decode cX10_orderTubes 63 = .ok (.invokevirtual 75, 3) := by decide +kernel
theorem dX10_orderTubes_66 : decode cX10_orderTubes 66 = .ok (.isub, 1) := by decide +kernel
theorem dX10_orderTubes_67 : decode cX10_orderTubes 67 = .ok (.iastore, 1) := by decide +kernel
theorem dX10_orderTubes_68 : decode cX10_orderTubes 68 = .ok (.iinc 3 1, 3) := by decide +kernel
theorem dX10_orderTubes_71 : decode cX10_orderTubes 71 = .ok (.goto (-36), 3) := by decide +kernel
theorem dX10_orderTubes_74 : decode cX10_orderTubes 74 = .ok (.aload_n 0, 1) := by decide +kernel
theorem dX10_orderTubes_75 : decode cX10_orderTubes 75 = .ok (.getfield 41, 3) := by decide +kernel
theorem dX10_orderTubes_78 : decode cX10_orderTubes 78 = .ok (.iload_n 2, 1) := by decide +kernel
theorem dX10_orderTubes_79 : decode cX10_orderTubes 79 = .ok (.iconst 0, 1) := by decide +kernel
theorem dX10_orderTubes_80 : decode cX10_orderTubes 80 = .ok (.iastore, 1) := by decide +kernel
theorem dX10_orderTubes_81 : decode cX10_orderTubes 81 = .ok (.aload_n 0, 1) := by decide +kernel
theorem dX10_orderTubes_82 : decode cX10_orderTubes 82 = .ok (.getfield 7, 3) := by decide +kernel
theorem dX10_orderTubes_85 : decode cX10_orderTubes 85 = .ok (.sipush 8720, 3) := by decide +kernel
theorem dX10_orderTubes_88 : decode cX10_orderTubes 88 = .ok (.iconst 2, 1) := by decide +kernel
theorem dX10_orderTubes_89 : decode cX10_orderTubes 89 = .ok (.iload_n 2, 1) := by decide +kernel
theorem dX10_orderTubes_90 : decode cX10_orderTubes 90 = .ok (.imul, 1) := by decide +kernel
theorem dX10_orderTubes_91 : decode cX10_orderTubes 91 = .ok (.iadd, 1) := by decide +kernel
theorem dX10_orderTubes_92 : decode cX10_orderTubes 92 = .ok (.iaload, 1) := by decide +kernel
theorem dX10_orderTubes_93 : decode cX10_orderTubes 93 = .ok (.ifCond .le 83, 3) := by decide +kernel
theorem dX10_orderTubes_96 : decode cX10_orderTubes 96 = .ok (.aload_n 0, 1) := by decide +kernel
theorem dX10_orderTubes_97 : decode cX10_orderTubes 97 = .ok (.getfield 138, 3) := by decide +kernel
theorem dX10_orderTubes_100 : decode cX10_orderTubes 100 = .ok (.istore_n 3, 1) := by decide +kernel
theorem dX10_orderTubes_101 : decode cX10_orderTubes 101 = .ok (.iload_n 3, 1) := by decide +kernel
theorem dX10_orderTubes_102 : decode cX10_orderTubes 102 = .ok (.ifCond .le 57, 3) := by decide +kernel
theorem dX10_orderTubes_105 : decode cX10_orderTubes 105 = .ok (.aload_n 0, 1) := by decide +kernel
theorem dX10_orderTubes_106 : decode cX10_orderTubes 106 = .ok (.getfield 7, 3) := by decide +kernel
theorem dX10_orderTubes_109 : decode cX10_orderTubes 109 = .ok (.sipush 8720, 3) := by decide +kernel
theorem dX10_orderTubes_112 : decode cX10_orderTubes 112 = .ok (.iconst 2, 1) := by decide +kernel
theorem dX10_orderTubes_113 : decode cX10_orderTubes 113 = .ok (.aload_n 0, 1) := by decide +kernel
theorem dX10_orderTubes_114 : decode cX10_orderTubes 114 = .ok (.getfield 32, 3) := by decide +kernel
theorem dX10_orderTubes_117 : decode cX10_orderTubes 117 = .ok (.iload_n 3, 1) := by decide +kernel
theorem dX10_orderTubes_118 : decode cX10_orderTubes 118 = .ok (.iconst 1, 1) := by decide +kernel
theorem dX10_orderTubes_119 : decode cX10_orderTubes 119 = .ok (.isub, 1) := by decide +kernel
theorem dX10_orderTubes_120 : decode cX10_orderTubes 120 = .ok (.iaload, 1) := by decide +kernel
theorem dX10_orderTubes_121 : decode cX10_orderTubes 121 = .ok (.imul, 1) := by decide +kernel
theorem dX10_orderTubes_122 : decode cX10_orderTubes 122 = .ok (.iadd, 1) := by decide +kernel
theorem dX10_orderTubes_123 : decode cX10_orderTubes 123 = .ok (.iaload, 1) := by decide +kernel
theorem dX10_orderTubes_124 : decode cX10_orderTubes 124 = .ok (.aload_n 0, 1) := by decide +kernel
theorem dX10_orderTubes_125 : decode cX10_orderTubes 125 = .ok (.getfield 7, 3) := by decide +kernel
theorem dX10_orderTubes_128 : decode cX10_orderTubes 128 = .ok (.sipush 8720, 3) := by decide +kernel
theorem dX10_orderTubes_131 : decode cX10_orderTubes 131 = .ok (.iconst 2, 1) := by decide +kernel
theorem dX10_orderTubes_132 : decode cX10_orderTubes 132 = .ok (.iload_n 2, 1) := by decide +kernel
theorem dX10_orderTubes_133 : decode cX10_orderTubes 133 = .ok (.imul, 1) := by decide +kernel
theorem dX10_orderTubes_134 : decode cX10_orderTubes 134 = .ok (.iadd, 1) := by decide +kernel
theorem dX10_orderTubes_135 : decode cX10_orderTubes 135 = .ok (.iaload, 1) := by decide +kernel
theorem dX10_orderTubes_136 : decode cX10_orderTubes 136 = .ok (.if_icmp .ge 23, 3) := by decide +kernel
theorem dX10_orderTubes_139 : decode cX10_orderTubes 139 = .ok (.aload_n 0, 1) := by decide +kernel
theorem dX10_orderTubes_140 : decode cX10_orderTubes 140 = .ok (.getfield 32, 3) := by decide +kernel
theorem dX10_orderTubes_143 : decode cX10_orderTubes 143 = .ok (.iload_n 3, 1) := by decide +kernel
theorem dX10_orderTubes_144 : decode cX10_orderTubes 144 = .ok (.aload_n 0, 1) := by decide +kernel
theorem dX10_orderTubes_145 : decode cX10_orderTubes 145 = .ok (.getfield 32, 3) := by decide +kernel
theorem dX10_orderTubes_148 : decode cX10_orderTubes 148 = .ok (.iload_n 3, 1) := by decide +kernel
theorem dX10_orderTubes_149 : decode cX10_orderTubes 149 = .ok (.iconst 1, 1) := by decide +kernel
theorem dX10_orderTubes_150 : decode cX10_orderTubes 150 = .ok (.isub, 1) := by decide +kernel
theorem dX10_orderTubes_151 : decode cX10_orderTubes 151 = .ok (.iaload, 1) := by decide +kernel
theorem dX10_orderTubes_152 : decode cX10_orderTubes 152 = .ok (.iastore, 1) := by decide +kernel
theorem dX10_orderTubes_153 : decode cX10_orderTubes 153 = .ok (.iinc 3 (-1), 3) := by decide +kernel
theorem dX10_orderTubes_156 : decode cX10_orderTubes 156 = .ok (.goto (-55), 3) := by decide +kernel
theorem dX10_orderTubes_159 : decode cX10_orderTubes 159 = .ok (.aload_n 0, 1) := by decide +kernel
theorem dX10_orderTubes_160 : decode cX10_orderTubes 160 = .ok (.getfield 32, 3) := by decide +kernel
theorem dX10_orderTubes_163 : decode cX10_orderTubes 163 = .ok (.iload_n 3, 1) := by decide +kernel
theorem dX10_orderTubes_164 : decode cX10_orderTubes 164 = .ok (.iload_n 2, 1) := by decide +kernel
theorem dX10_orderTubes_165 : decode cX10_orderTubes 165 = .ok (.iastore, 1) := by decide +kernel
theorem dX10_orderTubes_166 : decode cX10_orderTubes 166 = .ok (.aload_n 0, 1) := by decide +kernel
theorem dX10_orderTubes_167 : decode cX10_orderTubes 167 = .ok (.dup, 1) := by decide +kernel
theorem dX10_orderTubes_168 : decode cX10_orderTubes 168 = .ok (.getfield 138, 3) := by decide +kernel
theorem dX10_orderTubes_171 : decode cX10_orderTubes 171 = .ok (.iconst 1, 1) := by decide +kernel
theorem dX10_orderTubes_172 : decode cX10_orderTubes 172 = .ok (.iadd, 1) := by decide +kernel
theorem dX10_orderTubes_173 : decode cX10_orderTubes 173 = .ok (.putfield 138, 3) := by decide +kernel
theorem dX10_orderTubes_176 : decode cX10_orderTubes 176 = .ok (.iinc 2 1, 3) := by decide +kernel
theorem dX10_orderTubes_179 : decode cX10_orderTubes 179 = .ok (.goto (-172), 3) := by decide +kernel
theorem dX10_orderTubes_182 : decode cX10_orderTubes 182 = .ok (.return_, 1) := by decide +kernel
theorem dX10_canChange_0 : decode cX10_canChange 0 = .ok (.aload_n 0, 1) := by decide +kernel
theorem dX10_canChange_1 : decode cX10_canChange 1 = .ok (.iload_n 1, 1) := by decide +kernel
theorem dX10_canChange_2 : decode cX10_canChange 2 = .ok (.invokevirtual 141, 3) := by decide +kernel
theorem dX10_canChange_5 : decode cX10_canChange 5 = .ok (.iload_n 2, 1) := by decide +kernel
theorem dX10_canChange_6 : decode cX10_canChange 6 = .ok (.sipush 500, 3) := by decide +kernel
theorem dX10_canChange_9 : decode cX10_canChange 9 = .ok (.if_icmp .le 5, 3) := by decide +kernel
theorem dX10_canChange_12 : decode cX10_canChange 12 = .ok (.iconst 0, 1) := by decide +kernel
theorem dX10_canChange_13 : decode cX10_canChange 13 = .ok (.ireturn, 1) := by decide +kernel
theorem dX10_canChange_14 : decode cX10_canChange 14 = .ok (.iconst 0, 1) := by decide +kernel
theorem dX10_canChange_15 : decode cX10_canChange 15 = .ok (.istore_n 3, 1) := by decide +kernel
theorem dX10_canChange_16 : decode cX10_canChange 16 = .ok (.iload_n 3, 1) := by decide +kernel
theorem dX10_canChange_17 : decode cX10_canChange 17 = .ok (.iload_n 2, 1) := by decide +kernel
theorem dX10_canChange_18 : decode cX10_canChange 18 = .ok (.if_icmp .gt 35, 3) := by decide +kernel
theorem dX10_canChange_21 : decode cX10_canChange 21 = .ok (.aload_n 0, 1) := by decide +kernel
theorem dX10_canChange_22 : decode cX10_canChange 22 = .ok (.getfield 35, 3) := by decide +kernel
theorem dX10_canChange_25 : decode cX10_canChange 25 = .ok (.sipush 501, 3) := by decide +kernel
theorem dX10_canChange_28 : decode cX10_canChange 28 = .ok (.aload_n 0, 1) := by decide +kernel
theorem dX10_canChange_29 : decode cX10_canChange 29 = .ok (.getfield 138, 3) := by decide +kernel
theorem dX10_canChange_32 : decode cX10_canChange 32 = .ok (.imul, 1) := by decide +kernel
theorem dX10_canChange_33 : decode cX10_canChange 33 = .ok (.iload_n 3, 1) := by decide +kernel
theorem dX10_canChange_34 : decode cX10_canChange 34 = .ok (.iadd, 1) := by decide +kernel
theorem dX10_canChange_35 : decode cX10_canChange 35 = .ok (.iload_n 3, 1) := by decide +kernel
theorem dX10_canChange_36 : decode cX10_canChange 36 = .ok (.ifCond .ne 7, 3) := by decide +kernel
theorem dX10_canChange_39 : decode cX10_canChange 39 = .ok (.iconst 0, 1) := by decide +kernel
theorem dX10_canChange_40 : decode cX10_canChange 40 = .ok (.goto 6, 3) := by decide +kernel
theorem dX10_canChange_43 : decode cX10_canChange 43 = .ok (.sipush 9999, 3) := by decide +kernel
theorem dX10_canChange_46 : decode cX10_canChange 46 = .ok (.iastore, 1) := by decide +kernel
theorem dX10_canChange_47 : decode cX10_canChange 47 = .ok (.iinc 3 1, 3) := by decide +kernel
theorem dX10_canChange_50 : decode cX10_canChange 50 = .ok (.goto (-34), 3) := by decide +kernel
theorem dX10_canChange_53 : decode cX10_canChange 53 = .ok (.aload_n 0, 1) := by decide +kernel
theorem dX10_canChange_54 : decode cX10_canChange 54 = .ok (.getfield 138, 3) := by decide +kernel
theorem dX10_canChange_57 : decode cX10_canChange 57 = .ok (.iconst 1, 1) := by decide +kernel
theorem dX10_canChange_58 : decode cX10_canChange 58 = .ok (.isub, 1) := by decide +kernel
theorem dX10_canChange_59 : decode cX10_canChange 59 = .ok (.istore_n 3, 1) := by decide +kernel
theorem dX10_canChange_60 : decode cX10_canChange 60 = .ok (.iload_n 3, 1) := by decide +kernel
theorem dX10_canChange_61 : decode cX10_canChange 61 = .ok (.ifCond .lt 142, 3) := by decide +kernel
theorem dX10_canChange_64 : decode cX10_canChange 64 = .ok (.aload_n 0, 1) := by decide +kernel
theorem dX10_canChange_65 : decode cX10_canChange 65 = .ok (.getfield 7, 3) := by decide +kernel
theorem dX10_canChange_68 : decode cX10_canChange 68 = .ok (.sipush 8720, 3) := by decide +kernel
theorem dX10_canChange_71 : decode cX10_canChange 71 = .ok (.iconst 2, 1) := by decide +kernel
theorem dX10_canChange_72 : decode cX10_canChange 72 = .ok (.aload_n 0, 1) := by decide +kernel
theorem dX10_canChange_73 : decode cX10_canChange 73 = .ok (.getfield 32, 3) := by decide +kernel
theorem dX10_canChange_76 : decode cX10_canChange 76 = .ok (.iload_n 3, 1) := by decide +kernel
theorem dX10_canChange_77 : decode cX10_canChange 77 = .ok (.iaload, 1) := by decide +kernel
theorem dX10_canChange_78 : decode cX10_canChange 78 = .ok (.imul, 1) := by decide +kernel
theorem dX10_canChange_79 : decode cX10_canChange 79 = .ok (.iadd, 1) := by decide +kernel
theorem dX10_canChange_80 : decode cX10_canChange 80 = .ok (.iaload, 1) := by decide +kernel
theorem dX10_canChange_81 : decode cX10_canChange 81 = .ok (.istore 4, 2) := by decide +kernel
theorem dX10_canChange_83 : decode cX10_canChange 83 = .ok (.iconst 0, 1) := by decide +kernel
theorem dX10_canChange_84 : decode cX10_canChange 84 = .ok (.istore 5, 2) := by decide +kernel
theorem dX10_canChange_86 : decode cX10_canChange 86 = .ok (.iload 5, 2) := by decide +kernel
theorem dX10_canChange_88 : decode cX10_canChange 88 = .ok (.iload_n 2, 1) := by decide +kernel
theorem dX10_canChange_89 : decode cX10_canChange 89 = .ok (.if_icmp .gt 108, 3) := by decide +kernel
theorem dX10_canChange_92 : decode cX10_canChange 92 = .ok (.sipush 9999, 3) := by decide +kernel
theorem dX10_canChange_95 : decode cX10_canChange 95 = .ok (.istore 6, 2) := by decide +kernel
theorem dX10_canChange_97 : decode cX10_canChange 97 = .ok (.iconst 0, 1) := by decide +kernel
theorem dX10_canChange_98 : decode cX10_canChange 98 = .ok (.istore 7, 2) := by decide +kernel
theorem dX10_canChange_100 : decode cX10_canChange 100 = .ok (.iload 7, 2) := by decide +kernel
theorem dX10_canChange_102 : decode cX10_canChange 102 = .ok (.aload_n 0, 1) := by decide +kernel
theorem dX10_canChange_103 : decode cX10_canChange 103 = .ok (.getfield 38, 3) := by decide +kernel
theorem dX10_canChange_106 : decode cX10_canChange 106 = .ok (.aload_n 0, 1) := by decide +kernel
theorem dX10_canChange_107 : decode cX10_canChange 107 = .ok (.getfield 32, 3) := by decide +kernel
theorem dX10_canChange_110 : decode cX10_canChange 110 = .ok (.iload_n 3, 1) := by decide +kernel
theorem dX10_canChange_111 : decode cX10_canChange 111 = .ok (.iaload, 1) := by decide +kernel
theorem dX10_canChange_112 : decode cX10_canChange 112 = .ok (.iaload, 1) := by decide +kernel
theorem dX10_canChange_113 : decode cX10_canChange 113 = .ok (.if_icmp .gt 63, 3) := by decide +kernel
theorem dX10_canChange_116 : decode cX10_canChange 116 = .ok (.iload 7, 2) := by decide +kernel
theorem dX10_canChange_118 : decode cX10_canChange 118 = .ok (.iload 4, 2) := by decide +kernel
theorem dX10_canChange_120 : decode cX10_canChange 120 = .ok (.imul, 1) := by decide +kernel
theorem dX10_canChange_121 : decode cX10_canChange 121 = .ok (.iload 5, 2) := by decide +kernel
theorem dX10_canChange_123 : decode cX10_canChange 123 = .ok (.if_icmp .gt 53, 3) := by decide +kernel
theorem dX10_canChange_126 : decode cX10_canChange 126 = .ok (.iload 7, 2) := by decide +kernel
theorem dX10_canChange_128 : decode cX10_canChange 128 = .ok (.aload_n 0, 1) := by decide +kernel
theorem dX10_canChange_129 : decode cX10_canChange 129 = .ok (.getfield 35, 3) := by decide +kernel
theorem dX10_canChange_132 : decode cX10_canChange 132 = .ok (.sipush 501, 3) := by decide +kernel
theorem dX10_canChange_135 : decode cX10_canChange 135 = .ok (.iload_n 3, 1) := by decide +kernel
theorem dX10_canChange_136 : decode cX10_canChange 136 = .ok (.imul, 1) := by decide +kernel
theorem dX10_canChange_137 : decode cX10_canChange 137 = .ok (.sipush 501, 3) := by decide +kernel
theorem dX10_canChange_140 : decode cX10_canChange 140 = .ok (.iadd, 1) := by decide +kernel
theorem dX10_canChange_141 : decode cX10_canChange 141 = .ok (.iload 5, 2) := by decide +kernel
theorem dX10_canChange_143 : decode cX10_canChange 143 = .ok (.iadd, 1) := by decide +kernel
theorem dX10_canChange_144 : decode cX10_canChange 144 = .ok (.iload 7, 2) := by decide +kernel
theorem dX10_canChange_146 : decode cX10_canChange 146 = .ok (.iload 4, 2) := by decide +kernel
theorem dX10_canChange_148 : decode cX10_canChange 148 = .ok (.imul, 1) := by decide +kernel
theorem dX10_canChange_149 : decode cX10_canChange 149 = .ok (.isub, 1) := by decide +kernel
theorem dX10_canChange_150 : decode cX10_canChange 150 = .ok (.iaload, 1) := by decide +kernel
theorem dX10_canChange_151 : decode cX10_canChange 151 = .ok (.iadd, 1) := by decide +kernel
theorem dX10_canChange_152 : decode cX10_canChange 152 = .ok (.istore 8, 2) := by decide +kernel
theorem dX10_canChange_154 : decode cX10_canChange 154 = .ok (.iload 8, 2) := by decide +kernel
theorem dX10_canChange_156 : decode cX10_canChange 156 = .ok (.iload 6, 2) := by decide +kernel
theorem dX10_canChange_158 : decode cX10_canChange 158 = .ok (.if_icmp .ge 8, 3) := by decide +kernel
theorem dX10_canChange_161 : decode cX10_canChange 161 = .ok (.iload 8, 2) := by decide +kernel
theorem dX10_canChange_163 : decode cX10_canChange 163 = .ok (.goto 5, 3) := by decide +kernel
theorem dX10_canChange_166 : decode cX10_canChange 166 = .ok (.iload 6, 2) := by decide +kernel
theorem dX10_canChange_168 : decode cX10_canChange 168 = .ok (.istore 6, 2) := by decide +kernel
theorem dX10_canChange_170 : decode cX10_canChange 170 = .ok (.iinc 7 1, 3) := by decide +kernel
theorem dX10_canChange_173 : decode cX10_canChange 173 = .ok (.goto (-73), 3) := by decide +kernel
theorem dX10_canChange_176 : decode cX10_canChange 176 = .ok (.aload_n 0, 1) := by decide +kernel
theorem dX10_canChange_177 : decode cX10_canChange 177 = .ok (.getfield 35, 3) := by decide +kernel
theorem dX10_canChange_180 : decode cX10_canChange 180 = .ok (.sipush 501, 3) := by decide +kernel
theorem dX10_canChange_183 : decode cX10_canChange 183 = .ok (.iload_n 3, 1) := by decide +kernel
theorem dX10_canChange_184 : decode cX10_canChange 184 = .ok (.imul, 1) := by decide +kernel
theorem dX10_canChange_185 : decode cX10_canChange 185 = .ok (.iload 5, 2) := by decide +kernel
theorem dX10_canChange_187 : decode cX10_canChange 187 = .ok (.iadd, 1) := by decide +kernel
theorem dX10_canChange_188 : decode cX10_canChange 188 = .ok (.iload 6, 2) := by decide +kernel
theorem dX10_canChange_190 : decode cX10_canChange 190 = .ok (.iastore, 1) := by decide +kernel
theorem dX10_canChange_191 : decode cX10_canChange 191 = .ok (.iinc 5 1, 3) := by decide +kernel
theorem dX10_canChange_194 : decode cX10_canChange 194 = .ok (.goto (-108), 3) := by decide +kernel
theorem dX10_canChange_197 : decode cX10_canChange 197 = .ok (.iinc 3 (-1), 3) := by decide +kernel
theorem dX10_canChange_200 : decode cX10_canChange 200 = .ok (.goto (-140), 3) := by decide +kernel
theorem dX10_canChange_203 : decode cX10_canChange 203 = .ok (.aload_n 0, 1) := by decide +kernel
theorem dX10_canChange_204 : decode cX10_canChange 204 = .ok (.getfield 35, 3) := by decide +kernel
theorem dX10_canChange_207 : decode cX10_canChange 207 = .ok (.iload_n 2, 1) := by decide +kernel
theorem dX10_canChange_208 : decode cX10_canChange 208 = .ok (.iaload, 1) := by decide +kernel
theorem dX10_canChange_209 : decode cX10_canChange 209 = .ok (.sipush 9999, 3) := by decide +kernel
theorem dX10_canChange_212 : decode cX10_canChange 212 = .ok (.if_icmp .lt 5, 3) := by decide +kernel
theorem dX10_canChange_215 : decode cX10_canChange 215 = .ok (.iconst 0, 1) := by decide +kernel
theorem dX10_canChange_216 : decode cX10_canChange 216 = .ok (.ireturn, 1) := by decide +kernel
theorem dX10_canChange_217 : decode cX10_canChange 217 = .ok (.iload_n 2, 1) := by decide +kernel
theorem dX10_canChange_218 : decode cX10_canChange 218 = .ok (.istore_n 3, 1) := by decide +kernel
theorem dX10_canChange_219 : decode cX10_canChange 219 = .ok (.iconst 0, 1) := by decide +kernel
theorem dX10_canChange_220 : decode cX10_canChange 220 = .ok (.istore 4, 2) := by decide +kernel
theorem dX10_canChange_222 : decode cX10_canChange 222 = .ok (.iload 4, 2) := by decide +kernel
theorem dX10_canChange_224 : decode cX10_canChange 224 = .ok (.aload_n 0, 1) := by decide +kernel
theorem dX10_canChange_225 : decode cX10_canChange 225 = .ok (.getfield 138, 3) := by decide +kernel
theorem dX10_canChange_228 : decode cX10_canChange 228 = .ok (.if_icmp .ge 139, 3) := by decide +kernel
theorem dX10_canChange_231 : decode cX10_canChange 231 = .ok (.aload_n 0, 1) := by decide +kernel
theorem dX10_canChange_232 : decode cX10_canChange 232 = .ok (.getfield 7, 3) := by decide +kernel
theorem dX10_canChange_235 : decode cX10_canChange 235 = .ok (.sipush 8720, 3) := by decide +kernel
theorem dX10_canChange_238 : decode cX10_canChange 238 = .ok (.iconst 2, 1) := by decide +kernel
theorem dX10_canChange_239 : decode cX10_canChange 239 = .ok (.aload_n 0, 1) := by decide +kernel
theorem dX10_canChange_240 : decode cX10_canChange 240 = .ok (.getfield 32, 3) := by decide +kernel
theorem dX10_canChange_243 : decode cX10_canChange 243 = .ok (.iload 4, 2) := by decide +kernel
theorem dX10_canChange_245 : decode cX10_canChange 245 = .ok (.iaload, 1) := by decide +kernel
theorem dX10_canChange_246 : decode cX10_canChange 246 = .ok (.imul, 1) := by decide +kernel
theorem dX10_canChange_247 : decode cX10_canChange 247 = .ok (.iadd, 1) := by decide +kernel
theorem dX10_canChange_248 : decode cX10_canChange 248 = .ok (.iaload, 1) := by decide +kernel
theorem dX10_canChange_249 : decode cX10_canChange 249 = .ok (.istore 5, 2) := by decide +kernel
theorem dX10_canChange_251 : decode cX10_canChange 251 = .ok (.iload_n 3, 1) := by decide +kernel
theorem dX10_canChange_252 : decode cX10_canChange 252 = .ok (.iload 5, 2) := by decide +kernel
theorem dX10_canChange_254 : decode cX10_canChange 254 = .ok (.idiv, 1) := by decide +kernel
theorem dX10_canChange_255 : decode cX10_canChange 255 = .ok (.aload_n 0, 1) := by decide +kernel
theorem dX10_canChange_256 : decode cX10_canChange 256 = .ok (.getfield 38, 3) := by decide +kernel
theorem dX10_canChange_259 : decode cX10_canChange 259 = .ok (.aload_n 0, 1) := by decide +kernel
theorem dX10_canChange_260 : decode cX10_canChange 260 = .ok (.getfield 32, 3) := by decide +kernel
theorem dX10_canChange_263 : decode cX10_canChange 263 = .ok (.iload 4, 2) := by decide +kernel
theorem dX10_canChange_265 : decode cX10_canChange 265 = .ok (.iaload, 1) := by decide +kernel
theorem dX10_canChange_266 : decode cX10_canChange 266 = .ok (.iaload, 1) := by decide +kernel
theorem dX10_canChange_267 : decode cX10_canChange 267 = .ok (.if_icmp .ge 10, 3) := by decide +kernel
theorem dX10_canChange_270 : decode cX10_canChange 270 = .ok (.iload_n 3, 1) := by decide +kernel
theorem dX10_canChange_271 : decode cX10_canChange 271 = .ok (.iload 5, 2) := by decide +kernel
theorem dX10_canChange_273 : decode cX10_canChange 273 = .ok (.idiv, 1) := by decide +kernel
theorem dX10_canChange_274 : decode cX10_canChange 274 = .ok (.goto 15, 3) := by decide +kernel
theorem dX10_canChange_277 : decode cX10_canChange 277 = .ok (.aload_n 0, 1) := by decide +kernel
theorem dX10_canChange_278 : decode cX10_canChange 278 = .ok (.getfield 38, 3) := by decide +kernel
theorem dX10_canChange_281 : decode cX10_canChange 281 = .ok (.aload_n 0, 1) := by decide +kernel
theorem dX10_canChange_282 : decode cX10_canChange 282 = .ok (.getfield 32, 3) := by decide +kernel
theorem dX10_canChange_285 : decode cX10_canChange 285 = .ok (.iload 4, 2) := by decide +kernel
theorem dX10_canChange_287 : decode cX10_canChange 287 = .ok (.iaload, 1) := by decide +kernel
theorem dX10_canChange_288 : decode cX10_canChange 288 = .ok (.iaload, 1) := by decide +kernel
theorem dX10_canChange_289 : decode cX10_canChange 289 = .ok (.istore 6, 2) := by decide +kernel
theorem dX10_canChange_291 : decode cX10_canChange 291 = .ok (.iload 6, 2) := by decide +kernel
theorem dX10_canChange_293 : decode cX10_canChange 293 = .ok (.aload_n 0, 1) := by decide +kernel
theorem dX10_canChange_294 : decode cX10_canChange 294 = .ok (.getfield 35, 3) := by decide +kernel
theorem dX10_canChange_297 : decode cX10_canChange 297 = .ok (.sipush 501, 3) := by decide +kernel
theorem dX10_canChange_300 : decode cX10_canChange 300 = .ok (.iload 4, 2) := by decide +kernel
theorem dX10_canChange_302 : decode cX10_canChange 302 = .ok (.imul, 1) := by decide +kernel
theorem dX10_canChange_303 : decode cX10_canChange 303 = .ok (.sipush 501, 3) := by decide +kernel
theorem dX10_canChange_306 : decode cX10_canChange 306 = .ok (.iadd, 1) := by decide +kernel
theorem dX10_canChange_307 : decode cX10_canChange 307 = .ok (.iload_n 3, 1) := by decide +kernel
theorem dX10_canChange_308 : decode cX10_canChange 308 = .ok (.iadd, 1) := by decide +kernel
theorem dX10_canChange_309 : decode cX10_canChange 309 = .ok (.iload 6, 2) := by decide +kernel
theorem dX10_canChange_311 : decode cX10_canChange 311 = .ok (.iload 5, 2) := by decide +kernel
theorem dX10_canChange_313 : decode cX10_canChange 313 = .ok (.imul, 1) := by decide +kernel
theorem dX10_canChange_314 : decode cX10_canChange 314 = .ok (.isub, 1) := by decide +kernel
theorem dX10_canChange_315 : decode cX10_canChange 315 = .ok (.iaload, 1) := by decide +kernel
theorem dX10_canChange_316 : decode cX10_canChange 316 = .ok (.iadd, 1) := by decide +kernel
theorem dX10_canChange_317 : decode cX10_canChange 317 = .ok (.aload_n 0, 1) := by decide +kernel
theorem dX10_canChange_318 : decode cX10_canChange 318 = .ok (.getfield 35, 3) := by decide +kernel
theorem dX10_canChange_321 : decode cX10_canChange 321 = .ok (.sipush 501, 3) := by decide +kernel
theorem dX10_canChange_324 : decode cX10_canChange 324 = .ok (.iload 4, 2) := by decide +kernel
theorem dX10_canChange_326 : decode cX10_canChange 326 = .ok (.imul, 1) := by decide +kernel
theorem dX10_canChange_327 : decode cX10_canChange 327 = .ok (.iload_n 3, 1) := by decide +kernel
theorem dX10_canChange_328 : decode cX10_canChange 328 = .ok (.iadd, 1) := by decide +kernel
theorem dX10_canChange_329 : decode cX10_canChange 329 = .ok (.iaload, 1) := by decide +kernel
theorem dX10_canChange_330 : decode cX10_canChange 330 = .ok (.if_icmp .eq 9, 3) := by decide +kernel
theorem dX10_canChange_333 : decode cX10_canChange 333 = .ok (.iinc 6 (-1), 3) := by decide +kernel
theorem dX10_canChange_336 : decode cX10_canChange 336 = .ok (.goto (-45), 3) := by decide +kernel
theorem dX10_canChange_339 : decode cX10_canChange 339 = .ok (.aload_n 0, 1) := by decide +kernel
theorem dX10_canChange_340 : decode cX10_canChange 340 = .ok (.getfield 41, 3) := by decide +kernel
theorem dX10_canChange_343 : decode cX10_canChange 343 = .ok (.aload_n 0, 1) := by decide +kernel
theorem dX10_canChange_344 : decode cX10_canChange 344 = .ok (.getfield 32, 3) := by decide +kernel
theorem dX10_canChange_347 : decode cX10_canChange 347 = .ok (.iload 4, 2) := by decide +kernel
theorem dX10_canChange_349 : decode cX10_canChange 349 = .ok (.iaload, 1) := by decide +kernel
theorem dX10_canChange_350 : decode cX10_canChange 350 = .ok (.iload 6, 2) := by decide +kernel
theorem dX10_canChange_352 : decode cX10_canChange 352 = .ok (.iastore, 1) := by decide +kernel
theorem dX10_canChange_353 : decode cX10_canChange 353 = .ok (.iload_n 3, 1) := by decide +kernel
theorem dX10_canChange_354 : decode cX10_canChange 354 = .ok (.iload 6, 2) := by decide +kernel
theorem dX10_canChange_356 : decode cX10_canChange 356 = .ok (.iload 5, 2) := by decide +kernel
theorem dX10_canChange_358 : decode cX10_canChange 358 = .ok (.imul, 1) := by decide +kernel
theorem dX10_canChange_359 : decode cX10_canChange 359 = .ok (.isub, 1) := by decide +kernel
theorem dX10_canChange_360 : decode cX10_canChange 360 = .ok (.istore_n 3, 1) := by decide +kernel
theorem dX10_canChange_361 : decode cX10_canChange 361 = .ok (.iinc 4 1, 3) := by decide +kernel
theorem dX10_canChange_364 : decode cX10_canChange 364 = .ok (.goto (-142), 3) := by decide +kernel
theorem dX10_canChange_367 : decode cX10_canChange 367 = .ok (.iconst 1, 1) := by decide +kernel
theorem dX10_canChange_368 : decode cX10_canChange 368 = .ok (.ireturn, 1) := by decide +kernel
theorem dX10_pay_0 : decode cX10_pay 0 = .ok (.aload_n 0, 1) := by decide +kernel
theorem dX10_pay_1 : decode cX10_pay 1 = .ok (.iconst 0, 1) := by decide +kernel
theorem dX10_pay_2 : decode cX10_pay 2 = .ok (.putfield 53, 3) := by decide +kernel
theorem dX10_pay_5 : decode cX10_pay 5 = .ok (.iload_n 1, 1) := by decide +kernel
theorem dX10_pay_6 : decode cX10_pay 6 = .ok (.invokestatic 106, 3) := by decide +kernel
theorem dX10_pay_9 : decode cX10_pay 9 = .ok (.ifCond .ne 5, 3) := by decide +kernel
theorem dX10_pay_12 : decode cX10_pay 12 = .ok (.iconst (-1), 1) := by decide +kernel
theorem dX10_pay_13 : decode cX10_pay 13 = .ok (.ireturn, 1) := by decide +kernel
theorem dX10_pay_14 : decode cX10_pay 14 = .ok (.aload_n 0, 1) := by decide +kernel
theorem dX10_pay_15 : decode cX10_pay 15 = .ok (.iload_n 1, 1) := by decide +kernel
theorem dX10_pay_16 : decode cX10_pay 16 = .ok (.invokevirtual 110, 3) := by decide +kernel
theorem dX10_pay_19 : decode cX10_pay 19 = .ok (.ifCond .ne 9, 3) := by decide +kernel
theorem dX10_pay_22 : decode cX10_pay 22 = .ok (.aload_n 0, 1) := by decide +kernel
theorem dX10_pay_23 : decode cX10_pay 23 = .ok (.iconst 1, 1) := by decide +kernel
theorem dX10_pay_24 : decode cX10_pay 24 = .ok (.invokevirtual 117, 3) := by decide +kernel
theorem dX10_pay_27 : decode cX10_pay 27 = .ok (.ireturn, 1) := by decide +kernel
theorem dX10_pay_28 : decode cX10_pay 28 = .ok (.aload_n 0, 1) := by decide +kernel
theorem dX10_pay_29 : decode cX10_pay 29 = .ok (.iload_n 1, 1) := by decide +kernel
theorem dX10_pay_30 : decode cX10_pay 30 = .ok (.invokevirtual 145, 3) := by decide +kernel
theorem dX10_pay_33 : decode cX10_pay 33 = .ok (.aload_n 0, 1) := by decide +kernel
theorem dX10_pay_34 : decode cX10_pay 34 = .ok (.iload_n 1, 1) := by decide +kernel
theorem dX10_pay_35 : decode cX10_pay 35 = .ok (.bipush 6, 2) := by decide +kernel
theorem dX10_pay_37 : decode cX10_pay 37 = .ok (.invokevirtual 75, 3) := by decide +kernel
theorem dX10_pay_40 : decode cX10_pay 40 = .ok (.iconst 1, 1) := by decide +kernel
theorem dX10_pay_41 : decode cX10_pay 41 = .ok (.if_icmp .ne 6, 3) := by decide +kernel
theorem dX10_pay_44 : decode cX10_pay 44 = .ok (.bipush (-3), 2) := by decide +kernel
theorem dX10_pay_46 : decode cX10_pay 46 = .ok (.ireturn, 1) := by decide +kernel
theorem dX10_pay_47 : decode cX10_pay 47 = .ok (.aload_n 0, 1) := by decide +kernel
theorem dX10_pay_48 : decode cX10_pay 48 = .ok (.iload_n 1, 1) := by decide +kernel
theorem dX10_pay_49 : decode cX10_pay 49 = .ok (.iconst 2, 1) := by decide +kernel
theorem dX10_pay_50 : decode cX10_pay 50 = .ok (.invokevirtual 75, 3) := by decide +kernel
theorem dX10_pay_53 : decode cX10_pay 53 = .ok (.istore_n 2, 1) := by decide +kernel
theorem dX10_pay_54 : decode cX10_pay 54 = .ok (.aload_n 0, 1) := by decide +kernel
theorem dX10_pay_55 : decode cX10_pay 55 = .ok (.iload_n 1, 1) := by decide +kernel
theorem dX10_pay_56 : decode cX10_pay 56 = .ok (.invokevirtual 123, 3) := by decide +kernel
theorem dX10_pay_59 : decode cX10_pay 59 = .ok (.iload_n 2, 1) := by decide +kernel
theorem dX10_pay_60 : decode cX10_pay 60 = .ok (.isub, 1) := by decide +kernel
theorem dX10_pay_61 : decode cX10_pay 61 = .ok (.istore_n 3, 1) := by decide +kernel
theorem dX10_pay_62 : decode cX10_pay 62 = .ok (.iload_n 3, 1) := by decide +kernel
theorem dX10_pay_63 : decode cX10_pay 63 = .ok (.ifCond .ge 10, 3) := by decide +kernel
theorem dX10_pay_66 : decode cX10_pay 66 = .ok (.aload_n 0, 1) := by decide +kernel
theorem dX10_pay_67 : decode cX10_pay 67 = .ok (.bipush 8, 2) := by decide +kernel
theorem dX10_pay_69 : decode cX10_pay 69 = .ok (.invokevirtual 117, 3) := by decide +kernel
theorem dX10_pay_72 : decode cX10_pay 72 = .ok (.ireturn, 1) := by decide +kernel
theorem dX10_pay_73 : decode cX10_pay 73 = .ok (.aload_n 0, 1) := by decide +kernel
theorem dX10_pay_74 : decode cX10_pay 74 = .ok (.iload_n 1, 1) := by decide +kernel
theorem dX10_pay_75 : decode cX10_pay 75 = .ok (.iload_n 3, 1) := by decide +kernel
theorem dX10_pay_76 : decode cX10_pay 76 = .ok (.invokevirtual 148, 3) := by decide +kernel
theorem dX10_pay_79 : decode cX10_pay 79 = .ok (.ifCond .ne 17, 3) := by decide +kernel
theorem dX10_pay_82 : decode cX10_pay 82 = .ok (.aload_n 0, 1) := by decide +kernel
theorem dX10_pay_83 : decode cX10_pay 83 = .ok (.iload_n 1, 1) := by decide +kernel
theorem dX10_pay_84 : decode cX10_pay 84 = .ok (.invokevirtual 151, 3) := by decide +kernel
theorem dX10_pay_87 : decode cX10_pay 87 = .ok (.istore 4, 2) := by decide +kernel
theorem dX10_pay_89 : decode cX10_pay 89 = .ok (.aload_n 0, 1) := by decide +kernel
theorem dX10_pay_90 : decode cX10_pay 90 = .ok (.bipush 9, 2) := by decide +kernel
theorem dX10_pay_92 : decode cX10_pay 92 = .ok (.invokevirtual 117, 3) := by decide +kernel
theorem dX10_pay_95 : decode cX10_pay 95 = .ok (.ireturn, 1) := by decide +kernel
theorem dX10_pay_96 : decode cX10_pay 96 = .ok (.iconst 0, 1) := by decide +kernel
theorem dX10_pay_97 : decode cX10_pay 97 = .ok (.istore 4, 2) := by decide +kernel
theorem dX10_pay_99 : decode cX10_pay 99 = .ok (.iload 4, 2) := by decide +kernel
theorem dX10_pay_101 : decode cX10_pay 101 = .ok (.bipush 12, 2) := by decide +kernel
theorem dX10_pay_103 : decode cX10_pay 103 = .ok (.if_icmp .ge 71, 3) := by decide +kernel
theorem dX10_pay_106 : decode cX10_pay 106 = .ok (.aload_n 0, 1) := by decide +kernel
theorem dX10_pay_107 : decode cX10_pay 107 = .ok (.getfield 29, 3) := by decide +kernel
theorem dX10_pay_110 : decode cX10_pay 110 = .ok (.iload 4, 2) := by decide +kernel
theorem dX10_pay_112 : decode cX10_pay 112 = .ok (.aload_n 0, 1) := by decide +kernel
theorem dX10_pay_113 : decode cX10_pay 113 = .ok (.getfield 41, 3) := by decide +kernel
theorem dX10_pay_116 : decode cX10_pay 116 = .ok (.iload 4, 2) := by decide +kernel
theorem dX10_pay_118 : decode cX10_pay 118 = .ok (.iaload, 1) := by decide +kernel
theorem dX10_pay_119 : decode cX10_pay 119 = .ok (.iastore, 1) := by decide +kernel
theorem dX10_pay_120 : decode cX10_pay 120 = .ok (.aload_n 0, 1) := by decide +kernel
theorem dX10_pay_121 : decode cX10_pay 121 = .ok (.sipush 8720, 3) := by decide +kernel
theorem dX10_pay_124 : decode cX10_pay 124 = .ok (.iconst 2, 1) := by decide +kernel
theorem dX10_pay_125 : decode cX10_pay 125 = .ok (.iload 4, 2) := by decide +kernel
theorem dX10_pay_127 : decode cX10_pay 127 = .ok (.imul, 1) := by decide +kernel
theorem dX10_pay_128 : decode cX10_pay 128 = .ok (.iadd, 1) := by decide +kernel
theorem dX10_pay_129 : decode cX10_pay 129 = .ok (.iconst 1, 1) := by decide +kernel
theorem dX10_pay_130 : decode cX10_pay 130 = .ok (.iadd, 1) := by decide +kernel
theorem dX10_pay_131 : decode cX10_pay 131 = .ok (.aload_n 0, 1) := by decide +kernel
theorem dX10_pay_132 : decode cX10_pay 132 = .ok (.getfield 7, 3) := by decide +kernel
theorem dX10_pay_135 : decode cX10_pay 135 = .ok (.sipush 8720, 3) := by decide +kernel
theorem dX10_pay_138 : decode cX10_pay 138 = .ok (.iconst 2, 1) := by decide +kernel
theorem dX10_pay_139 : decode cX10_pay 139 = .ok (.iload 4, 2) := by decide +kernel
theorem dX10_pay_141 : decode cX10_pay 141 = .ok (.imul, 1) := by decide +kernel
theorem dX10_pay_142 : decode cX10_pay 142 = .ok (.iadd, 1) := by decide +kernel
theorem dX10_pay_143 : decode cX10_pay 143 = .ok (.iconst 1, 1) := by decide +kernel
theorem dX10_pay_144 : decode cX10_pay 144 = .ok (.iadd, 1) := by decide +kernel
theorem dX10_pay_145 : decode cX10_pay 145 = .ok (.iaload, 1) := by decide +kernel
theorem dX10_pay_146 : decode cX10_pay 146 = .ok (.aload_n 0, 1) := by decide +kernel
theorem dX10_pay_147 : decode cX10_pay 147 = .ok (.getfield 41, 3) := by decide +kernel
theorem dX10_pay_150 : decode cX10_pay 150 = .ok (.iload 4, 2) := by decide +kernel
theorem dX10_pay_152 : decode cX10_pay 152 = .ok (.iaload, 1) := by decide +kernel
theorem dX10_pay_153 : decode cX10_pay 153 = .ok (.isub, 1) := by decide +kernel
theorem dX10_pay_154 : decode cX10_pay 154 = .ok (.invokevirtual 67, 3) := by decide +kernel
theorem dX10_pay_157 : decode cX10_pay 157 = .ok (.aload_n 0, 1) := by decide +kernel
theorem dX10_pay_158 : decode cX10_pay 158 = .ok (.iload_n 1, 1) := by decide +kernel
theorem dX10_pay_159 : decode cX10_pay 159 = .ok (.bipush 14, 2) := by decide +kernel
theorem dX10_pay_161 : decode cX10_pay 161 = .ok (.iload 4, 2) := by decide +kernel
theorem dX10_pay_163 : decode cX10_pay 163 = .ok (.iadd, 1) := by decide +kernel
theorem dX10_pay_164 : decode cX10_pay 164 = .ok (.iconst 0, 1) := by decide +kernel
theorem dX10_pay_165 : decode cX10_pay 165 = .ok (.invokevirtual 113, 3) := by decide +kernel
theorem dX10_pay_168 : decode cX10_pay 168 = .ok (.iinc 4 1, 3) := by decide +kernel
theorem dX10_pay_171 : decode cX10_pay 171 = .ok (.goto (-72), 3) := by decide +kernel
theorem dX10_pay_174 : decode cX10_pay 174 = .ok (.aload_n 0, 1) := by decide +kernel
theorem dX10_pay_175 : decode cX10_pay 175 = .ok (.sipush 11347, 3) := by decide +kernel
theorem dX10_pay_178 : decode cX10_pay 178 = .ok (.aload_n 0, 1) := by decide +kernel
theorem dX10_pay_179 : decode cX10_pay 179 = .ok (.getfield 7, 3) := by decide +kernel
theorem dX10_pay_182 : decode cX10_pay 182 = .ok (.sipush 11347, 3) := by decide +kernel
theorem dX10_pay_185 : decode cX10_pay 185 = .ok (.iaload, 1) := by decide +kernel
theorem dX10_pay_186 : decode cX10_pay 186 = .ok (.iload_n 3, 1) := by decide +kernel
theorem dX10_pay_187 : decode cX10_pay 187 = .ok (.iadd, 1) := by decide +kernel
theorem dX10_pay_188 : decode cX10_pay 188 = .ok (.invokevirtual 67, 3) := by decide +kernel
theorem dX10_pay_191 : decode cX10_pay 191 = .ok (.aload_n 0, 1) := by decide +kernel
theorem dX10_pay_192 : decode cX10_pay 192 = .ok (.sipush 11348, 3) := by decide +kernel
theorem dX10_pay_195 : decode cX10_pay 195 = .ok (.aload_n 0, 1) := by decide +kernel
theorem dX10_pay_196 : decode cX10_pay 196 = .ok (.getfield 7, 3) := by decide +kernel
theorem dX10_pay_199 : decode cX10_pay 199 = .ok (.sipush 11348, 3) := by decide +kernel
theorem dX10_pay_202 : decode cX10_pay 202 = .ok (.iaload, 1) := by decide +kernel
theorem dX10_pay_203 : decode cX10_pay 203 = .ok (.iload_n 2, 1) := by decide +kernel
theorem dX10_pay_204 : decode cX10_pay 204 = .ok (.iadd, 1) := by decide +kernel
theorem dX10_pay_205 : decode cX10_pay 205 = .ok (.invokevirtual 67, 3) := by decide +kernel
theorem dX10_pay_208 : decode cX10_pay 208 = .ok (.aload_n 0, 1) := by decide +kernel
theorem dX10_pay_209 : decode cX10_pay 209 = .ok (.iload_n 1, 1) := by decide +kernel
theorem dX10_pay_210 : decode cX10_pay 210 = .ok (.bipush 40, 2) := by decide +kernel
theorem dX10_pay_212 : decode cX10_pay 212 = .ok (.aload_n 0, 1) := by decide +kernel
theorem dX10_pay_213 : decode cX10_pay 213 = .ok (.iload_n 1, 1) := by decide +kernel
theorem dX10_pay_214 : decode cX10_pay 214 = .ok (.bipush 40, 2) := by decide +kernel
theorem dX10_pay_216 : decode cX10_pay 216 = .ok (.invokevirtual 75, 3) := by decide +kernel
theorem dX10_pay_219 : decode cX10_pay 219 = .ok (.iload_n 2, 1) := by decide +kernel
theorem dX10_pay_220 : decode cX10_pay 220 = .ok (.iadd, 1) := by decide +kernel
theorem dX10_pay_221 : decode cX10_pay 221 = .ok (.invokevirtual 113, 3) := by decide +kernel
theorem dX10_pay_224 : decode cX10_pay 224 = .ok (.aload_n 0, 1) := by decide +kernel
theorem dX10_pay_225 : decode cX10_pay 225 = .ok (.iload_n 1, 1) := by decide +kernel
theorem dX10_pay_226 : decode cX10_pay 226 = .ok (.bipush 6, 2) := by decide +kernel
theorem dX10_pay_228 : decode cX10_pay 228 = .ok (.iconst 1, 1) := by decide +kernel
theorem dX10_pay_229 : decode cX10_pay 229 = .ok (.invokevirtual 113, 3) := by decide +kernel
theorem dX10_pay_232 : decode cX10_pay 232 = .ok (.iload_n 3, 1) := by decide +kernel
theorem dX10_pay_233 : decode cX10_pay 233 = .ok (.ireturn, 1) := by decide +kernel
theorem dX10_refund_0 : decode cX10_refund 0 = .ok (.aload_n 0, 1) := by decide +kernel
theorem dX10_refund_1 : decode cX10_refund 1 = .ok (.iconst 0, 1) := by decide +kernel
theorem dX10_refund_2 : decode cX10_refund 2 = .ok (.putfield 53, 3) := by decide +kernel
theorem dX10_refund_5 : decode cX10_refund 5 = .ok (.iload_n 1, 1) := by decide +kernel
theorem dX10_refund_6 : decode cX10_refund 6 = .ok (.invokestatic 106, 3) := by decide +kernel
theorem dX10_refund_9 : decode cX10_refund 9 = .ok (.ifCond .ne 5, 3) := by decide +kernel
theorem dX10_refund_12 : decode cX10_refund 12 = .ok (.iconst (-1), 1) := by decide +kernel
theorem dX10_refund_13 : decode cX10_refund 13 = .ok (.ireturn, 1) := by decide +kernel
theorem dX10_refund_14 : decode cX10_refund 14 = .ok (.aload_n 0, 1) := by decide +kernel
theorem dX10_refund_15 : decode cX10_refund 15 = .ok (.iload_n 1, 1) := by decide +kernel
theorem dX10_refund_16 : decode cX10_refund 16 = .ok (.invokevirtual 110, 3) := by decide +kernel
theorem dX10_refund_19 : decode cX10_refund 19 = .ok (.ifCond .eq 11, 3) := by decide +kernel
theorem dX10_refund_22 : decode cX10_refund 22 = .ok (.aload_n 0, 1) := by decide +kernel
theorem dX10_refund_23 : decode cX10_refund 23 = .ok (.iload_n 1, 1) := by decide +kernel
theorem dX10_refund_24 : decode cX10_refund 24 = .ok (.invokevirtual 151, 3) := by decide +kernel
theorem dX10_refund_27 : decode cX10_refund 27 = .ok (.goto 8, 3) := by decide +kernel
theorem dX10_refund_30 : decode cX10_refund 30 = .ok (.aload_n 0, 1) := by decide +kernel
theorem dX10_refund_31 : decode cX10_refund 31 = .ok (.iconst 1, 1) := by decide +kernel
theorem dX10_refund_32 : decode cX10_refund 32 = .ok (.invokevirtual 117, 3) := by decide +kernel
theorem dX10_refund_35 : decode cX10_refund 35 = .ok (.ireturn, 1) := by decide +kernel
theorem dX10_given_0 : decode cX10_given 0 = .ok (.aload_n 0, 1) := by decide +kernel
theorem dX10_given_1 : decode cX10_given 1 = .ok (.iconst 0, 1) := by decide +kernel
theorem dX10_given_2 : decode cX10_given 2 = .ok (.putfield 53, 3) := by decide +kernel
theorem dX10_given_5 : decode cX10_given 5 = .ok (.iload_n 1, 1) := by decide +kernel
theorem dX10_given_6 : decode cX10_given 6 = .ok (.invokestatic 135, 3) := by decide +kernel
theorem dX10_given_9 : decode cX10_given 9 = .ok (.ifCond .eq 12, 3) := by decide +kernel
theorem dX10_given_12 : decode cX10_given 12 = .ok (.aload_n 0, 1) := by decide +kernel
theorem dX10_given_13 : decode cX10_given 13 = .ok (.getfield 29, 3) := by decide +kernel
theorem dX10_given_16 : decode cX10_given 16 = .ok (.iload_n 1, 1) := by decide +kernel
theorem dX10_given_17 : decode cX10_given 17 = .ok (.iaload, 1) := by decide +kernel
theorem dX10_given_18 : decode cX10_given 18 = .ok (.goto 4, 3) := by decide +kernel
theorem dX10_given_21 : decode cX10_given 21 = .ok (.iconst (-1), 1) := by decide +kernel
theorem dX10_given_22 : decode cX10_given 22 = .ok (.ireturn, 1) := by decide +kernel
theorem dX10_coins_0 : decode cX10_coins 0 = .ok (.aload_n 0, 1) := by decide +kernel
theorem dX10_coins_1 : decode cX10_coins 1 = .ok (.iconst 0, 1) := by decide +kernel
theorem dX10_coins_2 : decode cX10_coins 2 = .ok (.putfield 53, 3) := by decide +kernel
theorem dX10_coins_5 : decode cX10_coins 5 = .ok (.iload_n 1, 1) := by decide +kernel
theorem dX10_coins_6 : decode cX10_coins 6 = .ok (.invokestatic 135, 3) := by decide +kernel
theorem dX10_coins_9 : decode cX10_coins 9 = .ok (.ifCond .ne 7, 3) := by decide +kernel
theorem dX10_coins_12 : decode cX10_coins 12 = .ok (.iconst (-1), 1) := by decide +kernel
theorem dX10_coins_13 : decode cX10_coins 13 = .ok (.goto 31, 3) := by decide +kernel
theorem dX10_coins_16 : decode cX10_coins 16 = .ok (.iload_n 2, 1) := by decide +kernel
theorem dX10_coins_17 : decode cX10_coins 17 = .ok (.iconst 0, 1) := by decide +kernel
theorem dX10_coins_18 : decode cX10_coins 18 = .ok (.iconst 1, 1) := by decide +kernel
theorem dX10_coins_19 : decode cX10_coins 19 = .ok (.invokestatic 71, 3) := by decide +kernel
theorem dX10_coins_22 : decode cX10_coins 22 = .ok (.ifCond .ne 8, 3) := by decide +kernel
theorem dX10_coins_25 : decode cX10_coins 25 = .ok (.bipush (-2), 2) := by decide +kernel
theorem dX10_coins_27 : decode cX10_coins 27 = .ok (.goto 17, 3) := by decide +kernel
theorem dX10_coins_30 : decode cX10_coins 30 = .ok (.aload_n 0, 1) := by decide +kernel
theorem dX10_coins_31 : decode cX10_coins 31 = .ok (.getfield 7, 3) := by decide +kernel
theorem dX10_coins_34 : decode cX10_coins 34 = .ok (.sipush 8720, 3) := by decide +kernel
theorem dX10_coins_37 : decode cX10_coins 37 = .ok (.iconst 2, 1) := by decide +kernel
theorem dX10_coins_38 : decode cX10_coins 38 = .ok (.iload_n 1, 1) := by decide +kernel
theorem dX10_coins_39 : decode cX10_coins 39 = .ok (.imul, 1) := by decide +kernel
theorem dX10_coins_40 : decode cX10_coins 40 = .ok (.iadd, 1) := by decide +kernel
theorem dX10_coins_41 : decode cX10_coins 41 = .ok (.iload_n 2, 1) := by decide +kernel
theorem dX10_coins_42 : decode cX10_coins 42 = .ok (.iadd, 1) := by decide +kernel
theorem dX10_coins_43 : decode cX10_coins 43 = .ok (.iaload, 1) := by decide +kernel
theorem dX10_coins_44 : decode cX10_coins 44 = .ok (.ireturn, 1) := by decide +kernel
theorem dX10_credit_0 : decode cX10_credit 0 = .ok (.aload_n 0, 1) := by decide +kernel
theorem dX10_credit_1 : decode cX10_credit 1 = .ok (.iconst 0, 1) := by decide +kernel
theorem dX10_credit_2 : decode cX10_credit 2 = .ok (.putfield 53, 3) := by decide +kernel
theorem dX10_credit_5 : decode cX10_credit 5 = .ok (.iload_n 1, 1) := by decide +kernel
theorem dX10_credit_6 : decode cX10_credit 6 = .ok (.invokestatic 106, 3) := by decide +kernel
theorem dX10_credit_9 : decode cX10_credit 9 = .ok (.ifCond .eq 11, 3) := by decide +kernel
theorem dX10_credit_12 : decode cX10_credit 12 = .ok (.aload_n 0, 1) := by decide +kernel
theorem dX10_credit_13 : decode cX10_credit 13 = .ok (.iload_n 1, 1) := by decide +kernel
theorem dX10_credit_14 : decode cX10_credit 14 = .ok (.invokevirtual 123, 3) := by decide +kernel
theorem dX10_credit_17 : decode cX10_credit 17 = .ok (.goto 4, 3) := by decide +kernel
theorem dX10_credit_20 : decode cX10_credit 20 = .ok (.iconst (-1), 1) := by decide +kernel
theorem dX10_credit_21 : decode cX10_credit 21 = .ok (.ireturn, 1) := by decide +kernel
theorem dX10_isLoad_0 : decode cX10_isLoad 0 = .ok (.iload_n 1, 1) := by decide +kernel
theorem dX10_isLoad_1 : decode cX10_isLoad 1 = .ok (.iconst 0, 1) := by decide +kernel
theorem dX10_isLoad_2 : decode cX10_isLoad 2 = .ok (.aload_n 0, 1) := by decide +kernel
theorem dX10_isLoad_3 : decode cX10_isLoad 3 = .ok (.getfield 7, 3) := by decide +kernel
theorem dX10_isLoad_6 : decode cX10_isLoad 6 = .ok (.sipush 11345, 3) := by decide +kernel
theorem dX10_isLoad_9 : decode cX10_isLoad 9 = .ok (.iaload, 1) := by decide +kernel
theorem dX10_isLoad_10 : decode cX10_isLoad 10 = .ok (.iconst 1, 1) := by decide +kernel
theorem dX10_isLoad_11 : decode cX10_isLoad 11 = .ok (.isub, 1) := by decide +kernel
theorem dX10_isLoad_12 : decode cX10_isLoad 12 = .ok (.invokestatic 71, 3) := by decide +kernel
theorem dX10_isLoad_15 : decode cX10_isLoad 15 = .ok (.ireturn, 1) := by decide +kernel
theorem dX10_load_0 : decode cX10_load 0 = .ok (.aload_n 0, 1) := by decide +kernel
theorem dX10_load_1 : decode cX10_load 1 = .ok (.iconst 0, 1) := by decide +kernel
theorem dX10_load_2 : decode cX10_load 2 = .ok (.putfield 53, 3) := by decide +kernel
theorem dX10_load_5 : decode cX10_load 5 = .ok (.iload_n 1, 1) := by decide +kernel
theorem dX10_load_6 : decode cX10_load 6 = .ok (.iconst 0, 1) := by decide +kernel
theorem dX10_load_7 : decode cX10_load 7 = .ok (.bipush 9, 2) := by decide +kernel
theorem dX10_load_9 : decode cX10_load 9 = .ok (.invokestatic 71, 3) := by decide +kernel
theorem dX10_load_12 : decode cX10_load 12 = .ok (.ifCond .eq 24, 3) := by decide +kernel
