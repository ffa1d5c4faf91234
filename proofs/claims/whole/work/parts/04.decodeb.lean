theorem dMO_thrown_0 : decode cMO_thrown 0 = .ok (.aload_n 0, 1) := by decide +kernel
theorem dMO_thrown_1 : decode cMO_thrown 1 = .ok (.getfield 54, 3) := by decide +kernel
theorem dMO_thrown_4 : decode cMO_thrown 4 = .ok (.ireturn, 1) := by decide +kernel
theorem dMO_first_0 : decode cMO_first 0 = .ok (.iconst 0, 1) := by decide +kernel
theorem dMO_first_1 : decode cMO_first 1 = .ok (.istore_n 2, 1) := by decide +kernel
theorem dMO_first_2 : decode cMO_first 2 = .ok (.iload_n 2, 1) := by decide +kernel
theorem dMO_first_3 : decode cMO_first 3 = .ok (.iconst 2, 1) := by decide +kernel
theorem dMO_first_4 : decode cMO_first 4 = .ok (.aload_n 0, 1) := by decide +kernel
theorem dMO_first_5 : decode cMO_first 5 = .ok (.getfield 7, 3) := by decide +kernel
theorem dMO_first_8 : decode cMO_first 8 = .ok (.imul, 1) := by decide +kernel
theorem dMO_first_9 : decode cMO_first 9 = .ok (.if_icmp .ge 25, 3) := by decide +kernel
theorem dMO_first_12 : decode cMO_first 12 = .ok (.aload_n 1, 1) := by decide +kernel
theorem dMO_first_13 : decode cMO_first 13 = .ok (.iload_n 2, 1) := by decide +kernel
theorem dMO_first_14 : decode cMO_first 14 = .ok (.iload_n 2, 1) := by decide +kernel
theorem dMO_first_15 : decode cMO_first 15 = .ok (.aload_n 0, 1) := by decide +kernel
theorem dMO_first_16 : decode cMO_first 16 = .ok (.getfield 7, 3) := by decide +kernel
theorem dMO_first_19 : decode cMO_first 19 = .ok (.if_icmp .ge 7, 3) := by decide +kernel
theorem dMO_first_22 : decode cMO_first 22 = .ok (.iconst 1, 1) := by decide +kernel
theorem dMO_first_23 : decode cMO_first 23 = .ok (.goto 4, 3) := by decide +kernel
theorem dMO_first_26 : decode cMO_first 26 = .ok (.iconst 0, 1) := by decide +kernel
theorem dMO_first_27 : decode cMO_first 27 = .ok (.iastore, 1) := by decide +kernel
theorem dMO_first_28 : decode cMO_first 28 = .ok (.iinc 2 1, 3) := by decide +kernel
theorem dMO_first_31 : decode cMO_first 31 = .ok (.goto (-29), 3) := by decide +kernel
theorem dMO_first_34 : decode cMO_first 34 = .ok (.return_, 1) := by decide +kernel
theorem dMO_next_0 : decode cMO_next 0 = .ok (.iconst (-1), 1) := by decide +kernel
theorem dMO_next_1 : decode cMO_next 1 = .ok (.istore_n 2, 1) := by decide +kernel
theorem dMO_next_2 : decode cMO_next 2 = .ok (.iconst 0, 1) := by decide +kernel
theorem dMO_next_3 : decode cMO_next 3 = .ok (.istore_n 3, 1) := by decide +kernel
theorem dMO_next_4 : decode cMO_next 4 = .ok (.iconst 0, 1) := by decide +kernel
theorem dMO_next_5 : decode cMO_next 5 = .ok (.istore 4, 2) := by decide +kernel
theorem dMO_next_7 : decode cMO_next 7 = .ok (.iconst 0, 1) := by decide +kernel
theorem dMO_next_8 : decode cMO_next 8 = .ok (.istore 5, 2) := by decide +kernel
theorem dMO_next_10 : decode cMO_next 10 = .ok (.iconst 0, 1) := by decide +kernel
theorem dMO_next_11 : decode cMO_next 11 = .ok (.istore 6, 2) := by decide +kernel
theorem dMO_next_13 : decode cMO_next 13 = .ok (.iload 6, 2) := by decide +kernel
theorem dMO_next_15 : decode cMO_next 15 = .ok (.iconst 2, 1) := by decide +kernel
theorem dMO_next_16 : decode cMO_next 16 = .ok (.aload_n 0, 1) := by decide +kernel
theorem dMO_next_17 : decode cMO_next 17 = .ok (.getfield 7, 3) := by decide +kernel
theorem dMO_next_20 : decode cMO_next 20 = .ok (.imul, 1) := by decide +kernel
theorem dMO_next_21 : decode cMO_next 21 = .ok (.if_icmp .ge 58, 3) := by decide +kernel
theorem dMO_next_24 : decode cMO_next 24 = .ok (.aload_n 1, 1) := by decide +kernel
theorem dMO_next_25 : decode cMO_next 25 = .ok (.iload 6, 2) := by decide +kernel
theorem dMO_next_27 : decode cMO_next 27 = .ok (.iaload, 1) := by decide +kernel
theorem dMO_next_28 : decode cMO_next 28 = .ok (.iconst 1, 1) := by decide +kernel
theorem dMO_next_29 : decode cMO_next 29 = .ok (.if_icmp .ne 19, 3) := by decide +kernel
theorem dMO_next_32 : decode cMO_next 32 = .ok (.iload_n 3, 1) := by decide +kernel
theorem dMO_next_33 : decode cMO_next 33 = .ok (.ifCond .le 15, 3) := by decide +kernel
theorem dMO_next_36 : decode cMO_next 36 = .ok (.iload 6, 2) := by decide +kernel
theorem dMO_next_38 : decode cMO_next 38 = .ok (.istore_n 2, 1) := by decide +kernel
theorem dMO_next_39 : decode cMO_next 39 = .ok (.aload_n 0, 1) := by decide +kernel
theorem dMO_next_40 : decode cMO_next 40 = .ok (.getfield 7, 3) := by decide +kernel
theorem dMO_next_43 : decode cMO_next 43 = .ok (.iload 4, 2) := by decide +kernel
theorem dMO_next_45 : decode cMO_next 45 = .ok (.isub, 1) := by decide +kernel
theorem dMO_next_46 : decode cMO_next 46 = .ok (.istore 5, 2) := by decide +kernel
theorem dMO_next_48 : decode cMO_next 48 = .ok (.iload_n 3, 1) := by decide +kernel
theorem dMO_next_49 : decode cMO_next 49 = .ok (.aload_n 1, 1) := by decide +kernel
theorem dMO_next_50 : decode cMO_next 50 = .ok (.iload 6, 2) := by decide +kernel
theorem dMO_next_52 : decode cMO_next 52 = .ok (.iaload, 1) := by decide +kernel
theorem dMO_next_53 : decode cMO_next 53 = .ok (.iconst 1, 1) := by decide +kernel
theorem dMO_next_54 : decode cMO_next 54 = .ok (.if_icmp .ne 7, 3) := by decide +kernel
theorem dMO_next_57 : decode cMO_next 57 = .ok (.iconst 1, 1) := by decide +kernel
theorem dMO_next_58 : decode cMO_next 58 = .ok (.goto 4, 3) := by decide +kernel
theorem dMO_next_61 : decode cMO_next 61 = .ok (.iconst (-1), 1) := by decide +kernel
theorem dMO_next_62 : decode cMO_next 62 = .ok (.iadd, 1) := by decide +kernel
theorem dMO_next_63 : decode cMO_next 63 = .ok (.istore_n 3, 1) := by decide +kernel
theorem dMO_next_64 : decode cMO_next 64 = .ok (.iload 4, 2) := by decide +kernel
theorem dMO_next_66 : decode cMO_next 66 = .ok (.aload_n 1, 1) := by decide +kernel
theorem dMO_next_67 : decode cMO_next 67 = .ok (.iload 6, 2) := by decide +kernel
theorem dMO_next_69 : decode cMO_next 69 = .ok (.iaload, 1) := by decide +kernel
theorem dMO_next_70 : decode cMO_next 70 = .ok (.iadd, 1) := by decide +kernel
theorem dMO_next_71 : decode cMO_next 71 = .ok (.istore 4, 2) := by decide +kernel
theorem dMO_next_73 : decode cMO_next 73 = .ok (.iinc 6 1, 3) := by decide +kernel
theorem dMO_next_76 : decode cMO_next 76 = .ok (.goto (-63), 3) := by decide +kernel
theorem dMO_next_79 : decode cMO_next 79 = .ok (.iload_n 2, 1) := by decide +kernel
theorem dMO_next_80 : decode cMO_next 80 = .ok (.ifCond .ge 5, 3) := by decide +kernel
theorem dMO_next_83 : decode cMO_next 83 = .ok (.iconst 0, 1) := by decide +kernel
theorem dMO_next_84 : decode cMO_next 84 = .ok (.ireturn, 1) := by decide +kernel
theorem dMO_next_85 : decode cMO_next 85 = .ok (.aload_n 1, 1) := by decide +kernel
theorem dMO_next_86 : decode cMO_next 86 = .ok (.iload_n 2, 1) := by decide +kernel
theorem dMO_next_87 : decode cMO_next 87 = .ok (.iconst 0, 1) := by decide +kernel
theorem dMO_next_88 : decode cMO_next 88 = .ok (.iastore, 1) := by decide +kernel
theorem dMO_next_89 : decode cMO_next 89 = .ok (.iload_n 2, 1) := by decide +kernel
theorem dMO_next_90 : decode cMO_next 90 = .ok (.iconst 1, 1) := by decide +kernel
theorem dMO_next_91 : decode cMO_next 91 = .ok (.iadd, 1) := by decide +kernel
theorem dMO_next_92 : decode cMO_next 92 = .ok (.istore 6, 2) := by decide +kernel
theorem dMO_next_94 : decode cMO_next 94 = .ok (.iload 6, 2) := by decide +kernel
theorem dMO_next_96 : decode cMO_next 96 = .ok (.iconst 2, 1) := by decide +kernel
theorem dMO_next_97 : decode cMO_next 97 = .ok (.aload_n 0, 1) := by decide +kernel
theorem dMO_next_98 : decode cMO_next 98 = .ok (.getfield 7, 3) := by decide +kernel
theorem dMO_next_101 : decode cMO_next 101 = .ok (.imul, 1) := by decide +kernel
theorem dMO_next_102 : decode cMO_next 102 = .ok (.if_icmp .ge 26, 3) := by decide +kernel
theorem dMO_next_105 : decode cMO_next 105 = .ok (.aload_n 1, 1) := by decide +kernel
theorem dMO_next_106 : decode cMO_next 106 = .ok (.iload 6, 2) := by decide +kernel
theorem dMO_next_108 : decode cMO_next 108 = .ok (.iload 5, 2) := by decide +kernel
theorem dMO_next_110 : decode cMO_next 110 = .ok (.ifCond .le 7, 3) := by decide +kernel
theorem dMO_next_113 : decode cMO_next 113 = .ok (.iconst 1, 1) := by decide +kernel
theorem dMO_next_114 : decode cMO_next 114 = .ok (.goto 4, 3) := by decide +kernel
theorem dMO_next_117 : decode cMO_next 117 = .ok (.iconst 0, 1) := by decide +kernel
theorem dMO_next_118 : decode cMO_next 118 = .ok (.iastore, 1) := by decide +kernel
theorem dMO_next_119 : decode cMO_next 119 = .ok (.iinc 5 (-1), 3) := by decide +kernel
theorem dMO_next_122 : decode cMO_next 122 = .ok (.iinc 6 1, 3) := by decide +kernel
theorem dMO_next_125 : decode cMO_next 125 = .ok (.goto (-31), 3) := by decide +kernel
theorem dMO_next_128 : decode cMO_next 128 = .ok (.iconst 1, 1) := by decide +kernel
theorem dMO_next_129 : decode cMO_next 129 = .ok (.ireturn, 1) := by decide +kernel
theorem dMO_same_0 : decode cMO_same 0 = .ok (.iconst 1, 1) := by decide +kernel
theorem dMO_same_1 : decode cMO_same 1 = .ok (.istore 4, 2) := by decide +kernel
theorem dMO_same_3 : decode cMO_same 3 = .ok (.iconst 0, 1) := by decide +kernel
theorem dMO_same_4 : decode cMO_same 4 = .ok (.istore 5, 2) := by decide +kernel
theorem dMO_same_6 : decode cMO_same 6 = .ok (.iload 5, 2) := by decide +kernel
theorem dMO_same_8 : decode cMO_same 8 = .ok (.iload_n 3, 1) := by decide +kernel
theorem dMO_same_9 : decode cMO_same 9 = .ok (.if_icmp .ge 32, 3) := by decide +kernel
theorem dMO_same_12 : decode cMO_same 12 = .ok (.iload 4, 2) := by decide +kernel
theorem dMO_same_14 : decode cMO_same 14 = .ok (.ifCond .eq 18, 3) := by decide +kernel
theorem dMO_same_17 : decode cMO_same 17 = .ok (.aload_n 1, 1) := by decide +kernel
theorem dMO_same_18 : decode cMO_same 18 = .ok (.iload 5, 2) := by decide +kernel
theorem dMO_same_20 : decode cMO_same 20 = .ok (.iaload, 1) := by decide +kernel
theorem dMO_same_21 : decode cMO_same 21 = .ok (.aload_n 2, 1) := by decide +kernel
theorem dMO_same_22 : decode cMO_same 22 = .ok (.iload 5, 2) := by decide +kernel
theorem dMO_same_24 : decode cMO_same 24 = .ok (.iaload, 1) := by decide +kernel
theorem dMO_same_25 : decode cMO_same 25 = .ok (.if_icmp .ne 7, 3) := by decide +kernel
theorem dMO_same_28 : decode cMO_same 28 = .ok (.iconst 1, 1) := by decide +kernel
theorem dMO_same_29 : decode cMO_same 29 = .ok (.goto 4, 3) := by decide +kernel
theorem dMO_same_32 : decode cMO_same 32 = .ok (.iconst 0, 1) := by decide +kernel
theorem dMO_same_33 : decode cMO_same 33 = .ok (.istore 4, 2) := by decide +kernel
theorem dMO_same_35 : decode cMO_same 35 = .ok (.iinc 5 1, 3) := by decide +kernel
theorem dMO_same_38 : decode cMO_same 38 = .ok (.goto (-32), 3) := by decide +kernel
theorem dMO_same_41 : decode cMO_same 41 = .ok (.iload 4, 2) := by decide +kernel
theorem dMO_same_43 : decode cMO_same 43 = .ok (.ireturn, 1) := by decide +kernel
theorem dMO_copy_0 : decode cMO_copy 0 = .ok (.iconst 0, 1) := by decide +kernel
theorem dMO_copy_1 : decode cMO_copy 1 = .ok (.istore 4, 2) := by decide +kernel
theorem dMO_copy_3 : decode cMO_copy 3 = .ok (.iload 4, 2) := by decide +kernel
theorem dMO_copy_5 : decode cMO_copy 5 = .ok (.iload_n 3, 1) := by decide +kernel
theorem dMO_copy_6 : decode cMO_copy 6 = .ok (.if_icmp .ge 17, 3) := by decide +kernel
theorem dMO_copy_9 : decode cMO_copy 9 = .ok (.aload_n 2, 1) := by decide +kernel
theorem dMO_copy_10 : decode cMO_copy 10 = .ok (.iload 4, 2) := by decide +kernel
theorem dMO_copy_12 : decode cMO_copy 12 = .ok (.aload_n 1, 1) := by decide +kernel
theorem dMO_copy_13 : decode cMO_copy 13 = .ok (.iload 4, 2) := by decide +kernel
theorem dMO_copy_15 : decode cMO_copy 15 = .ok (.iaload, 1) := by decide +kernel
theorem dMO_copy_16 : decode cMO_copy 16 = .ok (.iastore, 1) := by decide +kernel
theorem dMO_copy_17 : decode cMO_copy 17 = .ok (.iinc 4 1, 3) := by decide +kernel
theorem dMO_copy_20 : decode cMO_copy 20 = .ok (.goto (-17), 3) := by decide +kernel
theorem dMO_copy_23 : decode cMO_copy 23 = .ok (.return_, 1) := by decide +kernel
theorem dMO_count_0 : decode cMO_count 0 = .ok (.iconst 1, 1) := by decide +kernel
theorem dMO_count_1 : decode cMO_count 1 = .ok (.istore_n 1, 1) := by decide +kernel
theorem dMO_count_2 : decode cMO_count 2 = .ok (.aload_n 0, 1) := by decide +kernel
theorem dMO_count_3 : decode cMO_count 3 = .ok (.aload_n 0, 1) := by decide +kernel
theorem dMO_count_4 : decode cMO_count 4 = .ok (.getfield 20, 3) := by decide +kernel
theorem dMO_count_7 : decode cMO_count 7 = .ok (.invokevirtual 57, 3) := by decide +kernel
theorem dMO_count_10 : decode cMO_count 10 = .ok (.aload_n 0, 1) := by decide +kernel
theorem dMO_count_11 : decode cMO_count 11 = .ok (.aload_n 0, 1) := by decide +kernel
theorem dMO_count_12 : decode cMO_count 12 = .ok (.getfield 20, 3) := by decide +kernel
theorem dMO_count_15 : decode cMO_count 15 = .ok (.invokevirtual 61, 3) := by decide +kernel
theorem dMO_count_18 : decode cMO_count 18 = .ok (.ifCond .eq 9, 3) := by decide +kernel
theorem dMO_count_21 : decode cMO_count 21 = .ok (.iinc 1 1, 3) := by decide +kernel
theorem dMO_count_24 : decode cMO_count 24 = .ok (.goto (-14), 3) := by decide +kernel
theorem dMO_count_27 : decode cMO_count 27 = .ok (.iload_n 1, 1) := by decide +kernel
theorem dMO_count_28 : decode cMO_count 28 = .ok (.ireturn, 1) := by decide +kernel
theorem dMO_size_0 : decode cMO_size 0 = .ok (.aload_n 0, 1) := by decide +kernel
theorem dMO_size_1 : decode cMO_size 1 = .ok (.iload_n 1, 1) := by decide +kernel
theorem dMO_size_2 : decode cMO_size 2 = .ok (.iconst 1, 1) := by decide +kernel
theorem dMO_size_3 : decode cMO_size 3 = .ok (.if_icmp .lt 9, 3) := by decide +kernel
theorem dMO_size_6 : decode cMO_size 6 = .ok (.iload_n 1, 1) := by decide +kernel
theorem dMO_size_7 : decode cMO_size 7 = .ok (.bipush 9, 2) := by decide +kernel
theorem dMO_size_9 : decode cMO_size 9 = .ok (.if_icmp .le 7, 3) := by decide +kernel
theorem dMO_size_12 : decode cMO_size 12 = .ok (.iconst 1, 1) := by decide +kernel
theorem dMO_size_13 : decode cMO_size 13 = .ok (.goto 4, 3) := by decide +kernel
theorem dMO_size_16 : decode cMO_size 16 = .ok (.iconst 0, 1) := by decide +kernel
theorem dMO_size_17 : decode cMO_size 17 = .ok (.putfield 54, 3) := by decide +kernel
theorem dMO_size_20 : decode cMO_size 20 = .ok (.aload_n 0, 1) := by decide +kernel
theorem dMO_size_21 : decode cMO_size 21 = .ok (.getfield 54, 3) := by decide +kernel
theorem dMO_size_24 : decode cMO_size 24 = .ok (.ifCond .le 5, 3) := by decide +kernel
theorem dMO_size_27 : decode cMO_size 27 = .ok (.iconst 0, 1) := by decide +kernel
theorem dMO_size_28 : decode cMO_size 28 = .ok (.ireturn, 1) := by decide +kernel
theorem dMO_size_29 : decode cMO_size 29 = .ok (.aload_n 0, 1) := by decide +kernel
theorem dMO_size_30 : decode cMO_size 30 = .ok (.iload_n 1, 1) := by decide +kernel
theorem dMO_size_31 : decode cMO_size 31 = .ok (.putfield 7, 3) := by decide +kernel
theorem dMO_size_34 : decode cMO_size 34 = .ok (.aload_n 0, 1) := by decide +kernel
theorem dMO_size_35 : decode cMO_size 35 = .ok (.aload_n 0, 1) := by decide +kernel
theorem dMO_size_36 : decode cMO_size 36 = .ok (.getfield 13, 3) := by decide +kernel
theorem dMO_size_39 : decode cMO_size 39 = .ok (.invokevirtual 57, 3) := by decide +kernel
theorem dMO_size_42 : decode cMO_size 42 = .ok (.aload_n 0, 1) := by decide +kernel
theorem dMO_size_43 : decode cMO_size 43 = .ok (.invokevirtual 65, 3) := by decide +kernel
theorem dMO_size_46 : decode cMO_size 46 = .ok (.ireturn, 1) := by decide +kernel
theorem dMO_rankOf_0 : decode cMO_rankOf 0 = .ok (.iconst 0, 1) := by decide +kernel
theorem dMO_rankOf_1 : decode cMO_rankOf 1 = .ok (.istore_n 1, 1) := by decide +kernel
theorem dMO_rankOf_2 : decode cMO_rankOf 2 = .ok (.aload_n 0, 1) := by decide +kernel
theorem dMO_rankOf_3 : decode cMO_rankOf 3 = .ok (.aload_n 0, 1) := by decide +kernel
theorem dMO_rankOf_4 : decode cMO_rankOf 4 = .ok (.getfield 20, 3) := by decide +kernel
theorem dMO_rankOf_7 : decode cMO_rankOf 7 = .ok (.invokevirtual 57, 3) := by decide +kernel
theorem dMO_rankOf_10 : decode cMO_rankOf 10 = .ok (.aload_n 0, 1) := by decide +kernel
theorem dMO_rankOf_11 : decode cMO_rankOf 11 = .ok (.aload_n 0, 1) := by decide +kernel
theorem dMO_rankOf_12 : decode cMO_rankOf 12 = .ok (.getfield 20, 3) := by decide +kernel
theorem dMO_rankOf_15 : decode cMO_rankOf 15 = .ok (.aload_n 0, 1) := by decide +kernel
theorem dMO_rankOf_16 : decode cMO_rankOf 16 = .ok (.getfield 13, 3) := by decide +kernel
theorem dMO_rankOf_19 : decode cMO_rankOf 19 = .ok (.iconst 2, 1) := by decide +kernel
theorem dMO_rankOf_20 : decode cMO_rankOf 20 = .ok (.aload_n 0, 1) := by decide +kernel
theorem dMO_rankOf_21 : decode cMO_rankOf 21 = .ok (.getfield 7, 3) := by decide +kernel
theorem dMO_rankOf_24 : decode cMO_rankOf 24 = .ok (.imul, 1) := by decide +kernel
theorem dMO_rankOf_25 : decode cMO_rankOf 25 = .ok (.invokevirtual 69, 3) := by decide +kernel
theorem dMO_rankOf_28 : decode cMO_rankOf 28 = .ok (.ifCond .ne 20, 3) := by decide +kernel
theorem dMO_rankOf_31 : decode cMO_rankOf 31 = .ok (.aload_n 0, 1) := by decide +kernel
theorem dMO_rankOf_32 : decode cMO_rankOf 32 = .ok (.aload_n 0, 1) := by decide +kernel
theorem dMO_rankOf_33 : decode cMO_rankOf 33 = .ok (.getfield 20, 3) := by decide +kernel
theorem dMO_rankOf_36 : decode cMO_rankOf 36 = .ok (.invokevirtual 61, 3) := by decide +kernel
theorem dMO_rankOf_39 : decode cMO_rankOf 39 = .ok (.ifCond .eq 9, 3) := by decide +kernel
theorem dMO_rankOf_42 : decode cMO_rankOf 42 = .ok (.iinc 1 1, 3) := by decide +kernel
theorem dMO_rankOf_45 : decode cMO_rankOf 45 = .ok (.goto (-35), 3) := by decide +kernel
theorem dMO_rankOf_48 : decode cMO_rankOf 48 = .ok (.iload_n 1, 1) := by decide +kernel
theorem dMO_rankOf_49 : decode cMO_rankOf 49 = .ok (.ireturn, 1) := by decide +kernel
theorem dMO_rank_0 : decode cMO_rank 0 = .ok (.aload_n 0, 1) := by decide +kernel
theorem dMO_rank_1 : decode cMO_rank 1 = .ok (.iconst 0, 1) := by decide +kernel
theorem dMO_rank_2 : decode cMO_rank 2 = .ok (.putfield 54, 3) := by decide +kernel
theorem dMO_rank_5 : decode cMO_rank 5 = .ok (.aload_n 0, 1) := by decide +kernel
theorem dMO_rank_6 : decode cMO_rank 6 = .ok (.invokevirtual 73, 3) := by decide +kernel
theorem dMO_rank_9 : decode cMO_rank 9 = .ok (.ireturn, 1) := by decide +kernel
theorem dMO_unrank_0 : decode cMO_unrank 0 = .ok (.iconst 0, 1) := by decide +kernel
theorem dMO_unrank_1 : decode cMO_unrank 1 = .ok (.istore_n 2, 1) := by decide +kernel
theorem dMO_unrank_2 : decode cMO_unrank 2 = .ok (.aload_n 0, 1) := by decide +kernel
theorem dMO_unrank_3 : decode cMO_unrank 3 = .ok (.aload_n 0, 1) := by decide +kernel
theorem dMO_unrank_4 : decode cMO_unrank 4 = .ok (.getfield 20, 3) := by decide +kernel
theorem dMO_unrank_7 : decode cMO_unrank 7 = .ok (.invokevirtual 57, 3) := by decide +kernel
theorem dMO_unrank_10 : decode cMO_unrank 10 = .ok (.iload_n 1, 1) := by decide +kernel
theorem dMO_unrank_11 : decode cMO_unrank 11 = .ok (.ifCond .lt 7, 3) := by decide +kernel
theorem dMO_unrank_14 : decode cMO_unrank 14 = .ok (.iconst 1, 1) := by decide +kernel
theorem dMO_unrank_15 : decode cMO_unrank 15 = .ok (.goto 4, 3) := by decide +kernel
theorem dMO_unrank_18 : decode cMO_unrank 18 = .ok (.iconst 0, 1) := by decide +kernel
theorem dMO_unrank_19 : decode cMO_unrank 19 = .ok (.istore_n 3, 1) := by decide +kernel
theorem dMO_unrank_20 : decode cMO_unrank 20 = .ok (.iload_n 3, 1) := by decide +kernel
theorem dMO_unrank_21 : decode cMO_unrank 21 = .ok (.ifCond .eq 23, 3) := by decide +kernel
theorem dMO_unrank_24 : decode cMO_unrank 24 = .ok (.iload_n 2, 1) := by decide +kernel
theorem dMO_unrank_25 : decode cMO_unrank 25 = .ok (.iload_n 1, 1) := by decide +kernel
theorem dMO_unrank_26 : decode cMO_unrank 26 = .ok (.if_icmp .ge 18, 3) := by decide +kernel
theorem dMO_unrank_29 : decode cMO_unrank 29 = .ok (.aload_n 0, 1) := by decide +kernel
theorem dMO_unrank_30 : decode cMO_unrank 30 = .ok (.aload_n 0, 1) := by decide +kernel
theorem dMO_unrank_31 : decode cMO_unrank 31 = .ok (.getfield 20, 3) := by decide +kernel
theorem dMO_unrank_34 : decode cMO_unrank 34 = .ok (.invokevirtual 61, 3) := by decide +kernel
theorem dMO_unrank_37 : decode cMO_unrank 37 = .ok (.istore_n 3, 1) := by decide +kernel
theorem dMO_unrank_38 : decode cMO_unrank 38 = .ok (.iinc 2 1, 3) := by decide +kernel
theorem dMO_unrank_41 : decode cMO_unrank 41 = .ok (.goto (-21), 3) := by decide +kernel
theorem dMO_unrank_44 : decode cMO_unrank 44 = .ok (.aload_n 0, 1) := by decide +kernel
theorem dMO_unrank_45 : decode cMO_unrank 45 = .ok (.iload_n 3, 1) := by decide +kernel
theorem dMO_unrank_46 : decode cMO_unrank 46 = .ok (.ifCond .eq 7, 3) := by decide +kernel
theorem dMO_unrank_49 : decode cMO_unrank 49 = .ok (.iconst 0, 1) := by decide +kernel
theorem dMO_unrank_50 : decode cMO_unrank 50 = .ok (.goto 4, 3) := by decide +kernel
theorem dMO_unrank_53 : decode cMO_unrank 53 = .ok (.iconst 1, 1) := by decide +kernel
theorem dMO_unrank_54 : decode cMO_unrank 54 = .ok (.putfield 54, 3) := by decide +kernel
theorem dMO_unrank_57 : decode cMO_unrank 57 = .ok (.iload_n 3, 1) := by decide +kernel
theorem dMO_unrank_58 : decode cMO_unrank 58 = .ok (.ifCond .eq 21, 3) := by decide +kernel
theorem dMO_unrank_61 : decode cMO_unrank 61 = .ok (.aload_n 0, 1) := by decide +kernel
theorem dMO_unrank_62 : decode cMO_unrank 62 = .ok (.aload_n 0, 1) := by decide +kernel
theorem dMO_unrank_63 : decode cMO_unrank 63 = .ok (.getfield 20, 3) := by decide +kernel
theorem dMO_unrank_66 : decode cMO_unrank 66 = .ok (.aload_n 0, 1) := by decide +kernel
theorem dMO_unrank_67 : decode cMO_unrank 67 = .ok (.getfield 13, 3) := by decide +kernel
theorem dMO_unrank_70 : decode cMO_unrank 70 = .ok (.iconst 2, 1) := by decide +kernel
theorem dMO_unrank_71 : decode cMO_unrank 71 = .ok (.aload_n 0, 1) := by decide +kernel
theorem dMO_unrank_72 : decode cMO_unrank 72 = .ok (.getfield 7, 3) := by decide +kernel
theorem dMO_unrank_75 : decode cMO_unrank 75 = .ok (.imul, 1) := by decide +kernel
theorem dMO_unrank_76 : decode cMO_unrank 76 = .ok (.invokevirtual 76, 3) := by decide +kernel
theorem dMO_unrank_79 : decode cMO_unrank 79 = .ok (.return_, 1) := by decide +kernel
theorem dMO_rows_0 : decode cMO_rows 0 = .ok (.aload_n 0, 1) := by decide +kernel
theorem dMO_rows_1 : decode cMO_rows 1 = .ok (.iload_n 1, 1) := by decide +kernel
theorem dMO_rows_2 : decode cMO_rows 2 = .ok (.ifCond .lt 19, 3) := by decide +kernel
theorem dMO_rows_5 : decode cMO_rows 5 = .ok (.iload_n 1, 1) := by decide +kernel
theorem dMO_rows_6 : decode cMO_rows 6 = .ok (.bipush 15, 2) := by decide +kernel
theorem dMO_rows_8 : decode cMO_rows 8 = .ok (.if_icmp .gt 13, 3) := by decide +kernel
theorem dMO_rows_11 : decode cMO_rows 11 = .ok (.iload_n 2, 1) := by decide +kernel
theorem dMO_rows_12 : decode cMO_rows 12 = .ok (.ifCond .lt 9, 3) := by decide +kernel
theorem dMO_rows_15 : decode cMO_rows 15 = .ok (.iload_n 2, 1) := by decide +kernel
theorem dMO_rows_16 : decode cMO_rows 16 = .ok (.bipush 15, 2) := by decide +kernel
theorem dMO_rows_18 : decode cMO_rows 18 = .ok (.if_icmp .le 7, 3) := by decide +kernel
theorem dMO_rows_21 : decode cMO_rows 21 = .ok (.iconst 1, 1) := by decide +kernel
theorem dMO_rows_22 : decode cMO_rows 22 = .ok (.goto 4, 3) := by decide +kernel
theorem dMO_rows_25 : decode cMO_rows 25 = .ok (.iconst 0, 1) := by decide +kernel
theorem dMO_rows_26 : decode cMO_rows 26 = .ok (.putfield 54, 3) := by decide +kernel
theorem dMO_rows_29 : decode cMO_rows 29 = .ok (.aload_n 0, 1) := by decide +kernel
theorem dMO_rows_30 : decode cMO_rows 30 = .ok (.getfield 54, 3) := by decide +kernel
theorem dMO_rows_33 : decode cMO_rows 33 = .ok (.ifCond .gt 8, 3) := by decide +kernel
theorem dMO_rows_36 : decode cMO_rows 36 = .ok (.iload_n 2, 1) := by decide +kernel
theorem dMO_rows_37 : decode cMO_rows 37 = .ok (.iload_n 1, 1) := by decide +kernel
theorem dMO_rows_38 : decode cMO_rows 38 = .ok (.if_icmp .le 5, 3) := by decide +kernel
theorem dMO_rows_41 : decode cMO_rows 41 = .ok (.iconst 0, 1) := by decide +kernel
theorem dMO_rows_42 : decode cMO_rows 42 = .ok (.ireturn, 1) := by decide +kernel
theorem dMO_rows_43 : decode cMO_rows 43 = .ok (.lconst 1, 1) := by decide +kernel
theorem dMO_rows_44 : decode cMO_rows 44 = .ok (.lstore_n 3, 1) := by decide +kernel
theorem dMO_rows_45 : decode cMO_rows 45 = .ok (.iload_n 2, 1) := by decide +kernel
theorem dMO_rows_46 : decode cMO_rows 46 = .ok (.ifCond .ne 7, 3) := by decide +kernel
theorem dMO_rows_49 : decode cMO_rows 49 = .ok (.lconst 0, 1) := by decide +kernel
theorem dMO_rows_50 : decode cMO_rows 50 = .ok (.goto 4, 3) := by decide +kernel
theorem dMO_rows_53 : decode cMO_rows 53 = .ok (.lconst 1, 1) := by decide +kernel
theorem dMO_rows_54 : decode cMO_rows 54 = .ok (.lstore 5, 2) := by decide +kernel
theorem dMO_rows_56 : decode cMO_rows 56 = .ok (.iconst 1, 1) := by decide +kernel
theorem dMO_rows_57 : decode cMO_rows 57 = .ok (.istore 7, 2) := by decide +kernel
theorem dMO_rows_59 : decode cMO_rows 59 = .ok (.iload 7, 2) := by decide +kernel
theorem dMO_rows_61 : decode cMO_rows 61 = .ok (.iload_n 2, 1) := by decide +kernel
theorem dMO_rows_62 : decode cMO_rows 62 = .ok (.if_icmp .gt 21, 3) := by decide +kernel
theorem dMO_rows_65 : decode cMO_rows 65 = .ok (.lload_n 3, 1) := by decide +kernel
theorem dMO_rows_66 : decode cMO_rows 66 = .ok (.iload_n 1, 1) := by decide +kernel
theorem dMO_rows_67 : decode cMO_rows 67 = .ok (.iload 7, 2) := by decide +kernel
theorem dMO_rows_69 : decode cMO_rows 69 = .ok (.iadd, 1) := by decide +kernel
theorem dMO_rows_70 : decode cMO_rows 70 = .ok (.i2l, 1) := by decide +kernel
theorem dMO_rows_71 : decode cMO_rows 71 = .ok (.lmul, 1) := by decide +kernel
theorem dMO_rows_72 : decode cMO_rows 72 = .ok (.iload 7, 2) := by decide +kernel
theorem dMO_rows_74 : decode cMO_rows 74 = .ok (.i2l, 1) := by decide +kernel
theorem dMO_rows_75 : decode cMO_rows 75 = .ok (.ldiv, 1) := by decide +kernel
theorem dMO_rows_76 : decode cMO_rows 76 = .ok (.lstore_n 3, 1) := by decide +kernel
theorem dMO_rows_77 : decode cMO_rows 77 = .ok (.iinc 7 1, 3) := by decide +kernel
theorem dMO_rows_80 : decode cMO_rows 80 = .ok (.goto (-21), 3) := by decide +kernel
theorem dMO_rows_83 : decode cMO_rows 83 = .ok (.iconst 1, 1) := by decide +kernel
theorem dMO_rows_84 : decode cMO_rows 84 = .ok (.istore 7, 2) := by decide +kernel
theorem dMO_rows_86 : decode cMO_rows 86 = .ok (.iload 7, 2) := by decide +kernel
theorem dMO_rows_88 : decode cMO_rows 88 = .ok (.iload_n 2, 1) := by decide +kernel
theorem dMO_rows_89 : decode cMO_rows 89 = .ok (.if_icmp .ge 25, 3) := by decide +kernel
theorem dMO_rows_92 : decode cMO_rows 92 = .ok (.lload 5, 2) := by decide +kernel
theorem dMO_rows_94 : decode cMO_rows 94 = .ok (.iload_n 1, 1) := by decide +kernel
theorem dMO_rows_95 : decode cMO_rows 95 = .ok (.iconst 1, 1) := by decide +kernel
theorem dMO_rows_96 : decode cMO_rows 96 = .ok (.iadd, 1) := by decide +kernel
theorem dMO_rows_97 : decode cMO_rows 97 = .ok (.iload 7, 2) := by decide +kernel
theorem dMO_rows_99 : decode cMO_rows 99 = .ok (.iadd, 1) := by decide +kernel
theorem dMO_rows_100 : decode cMO_rows 100 = .ok (.i2l, 1) := by decide +kernel
theorem dMO_rows_101 : decode cMO_rows 101 = .ok (.lmul, 1) := by decide +kernel
theorem dMO_rows_102 : decode cMO_rows 102 = .ok (.iload 7, 2) := by decide +kernel
theorem dMO_rows_104 : decode cMO_rows 104 = .ok (.i2l, 1) := by decide +kernel
theorem dMO_rows_105 : decode cMO_rows 105 = .ok (.ldiv, 1) := by decide +kernel
theorem dMO_rows_106 : decode cMO_rows 106 = .ok (.lstore 5, 2) := by decide +kernel
theorem dMO_rows_108 : decode cMO_rows 108 = .ok (.iinc 7 1, 3) := by decide +kernel
theorem dMO_rows_111 : decode cMO_rows 111 = .ok (.goto (-25), 3) := by decide +kernel
theorem dMO_rows_114 : decode cMO_rows 114 = .ok (.lload_n 3, 1) := by decide +kernel
theorem dMO_rows_115 : decode cMO_rows 115 = .ok (.lload 5, 2) := by decide +kernel
theorem dMO_rows_117 : decode cMO_rows 117 = .ok (.lsub, 1) := by decide +kernel
theorem dMO_rows_118 : decode cMO_rows 118 = .ok (.l2i, 1) := by decide +kernel
theorem dMO_rows_119 : decode cMO_rows 119 = .ok (.ireturn, 1) := by decide +kernel
theorem dMO_put_0 : decode cMO_put 0 = .ok (.aload_n 0, 1) := by decide +kernel
theorem dMO_put_1 : decode cMO_put 1 = .ok (.iload_n 1, 1) := by decide +kernel
theorem dMO_put_2 : decode cMO_put 2 = .ok (.ifCond .lt 9, 3) := by decide +kernel
theorem dMO_put_5 : decode cMO_put 5 = .ok (.iload_n 1, 1) := by decide +kernel
theorem dMO_put_6 : decode cMO_put 6 = .ok (.bipush 19, 2) := by decide +kernel
theorem dMO_put_8 : decode cMO_put 8 = .ok (.if_icmp .le 7, 3) := by decide +kernel
theorem dMO_put_11 : decode cMO_put 11 = .ok (.iconst 1, 1) := by decide +kernel
theorem dMO_put_12 : decode cMO_put 12 = .ok (.goto 4, 3) := by decide +kernel
theorem dMO_put_15 : decode cMO_put 15 = .ok (.iconst 0, 1) := by decide +kernel
theorem dMO_put_16 : decode cMO_put 16 = .ok (.putfield 54, 3) := by decide +kernel
theorem dMO_put_19 : decode cMO_put 19 = .ok (.aload_n 0, 1) := by decide +kernel
theorem dMO_put_20 : decode cMO_put 20 = .ok (.getfield 54, 3) := by decide +kernel
theorem dMO_put_23 : decode cMO_put 23 = .ok (.ifCond .ne 10, 3) := by decide +kernel
theorem dMO_put_26 : decode cMO_put 26 = .ok (.aload_n 0, 1) := by decide +kernel
theorem dMO_put_27 : decode cMO_put 27 = .ok (.getfield 17, 3) := by decide +kernel
theorem dMO_put_30 : decode cMO_put 30 = .ok (.iload_n 1, 1) := by decide +kernel
theorem dMO_put_31 : decode cMO_put 31 = .ok (.iload_n 2, 1) := by decide +kernel
theorem dMO_put_32 : decode cMO_put 32 = .ok (.iastore, 1) := by decide +kernel
theorem dMO_put_33 : decode cMO_put 33 = .ok (.return_, 1) := by decide +kernel
theorem dMO_note_0 : decode cMO_note 0 = .ok (.aload_n 0, 1) := by decide +kernel
theorem dMO_note_1 : decode cMO_note 1 = .ok (.iload_n 1, 1) := by decide +kernel
theorem dMO_note_2 : decode cMO_note 2 = .ok (.ifCond .lt 9, 3) := by decide +kernel
theorem dMO_note_5 : decode cMO_note 5 = .ok (.iload_n 1, 1) := by decide +kernel
theorem dMO_note_6 : decode cMO_note 6 = .ok (.bipush 19, 2) := by decide +kernel
theorem dMO_note_8 : decode cMO_note 8 = .ok (.if_icmp .le 7, 3) := by decide +kernel
theorem dMO_note_11 : decode cMO_note 11 = .ok (.iconst 1, 1) := by decide +kernel
theorem dMO_note_12 : decode cMO_note 12 = .ok (.goto 4, 3) := by decide +kernel
theorem dMO_note_15 : decode cMO_note 15 = .ok (.iconst 0, 1) := by decide +kernel
theorem dMO_note_16 : decode cMO_note 16 = .ok (.putfield 54, 3) := by decide +kernel
theorem dMO_note_19 : decode cMO_note 19 = .ok (.aload_n 0, 1) := by decide +kernel
theorem dMO_note_20 : decode cMO_note 20 = .ok (.getfield 54, 3) := by decide +kernel
theorem dMO_note_23 : decode cMO_note 23 = .ok (.ifCond .ne 12, 3) := by decide +kernel
theorem dMO_note_26 : decode cMO_note 26 = .ok (.aload_n 0, 1) := by decide +kernel
theorem dMO_note_27 : decode cMO_note 27 = .ok (.getfield 17, 3) := by decide +kernel
theorem dMO_note_30 : decode cMO_note 30 = .ok (.iload_n 1, 1) := by decide +kernel
theorem dMO_note_31 : decode cMO_note 31 = .ok (.iaload, 1) := by decide +kernel
theorem dMO_note_32 : decode cMO_note 32 = .ok (.goto 4, 3) := by decide +kernel
theorem dMO_note_35 : decode cMO_note 35 = .ok (.iconst 0, 1) := by decide +kernel
theorem dMO_note_36 : decode cMO_note 36 = .ok (.ireturn, 1) := by decide +kernel
theorem dMO_pairs_0 : decode cMO_pairs 0 = .ok (.iconst 0, 1) := by decide +kernel
theorem dMO_pairs_1 : decode cMO_pairs 1 = .ok (.istore_n 2, 1) := by decide +kernel
theorem dMO_pairs_2 : decode cMO_pairs 2 = .ok (.iconst 0, 1) := by decide +kernel
theorem dMO_pairs_3 : decode cMO_pairs 3 = .ok (.istore_n 3, 1) := by decide +kernel
theorem dMO_pairs_4 : decode cMO_pairs 4 = .ok (.iload_n 3, 1) := by decide +kernel
theorem dMO_pairs_5 : decode cMO_pairs 5 = .ok (.iconst 2, 1) := by decide +kernel
theorem dMO_pairs_6 : decode cMO_pairs 6 = .ok (.aload_n 0, 1) := by decide +kernel
theorem dMO_pairs_7 : decode cMO_pairs 7 = .ok (.getfield 7, 3) := by decide +kernel
theorem dMO_pairs_10 : decode cMO_pairs 10 = .ok (.imul, 1) := by decide +kernel
theorem dMO_pairs_11 : decode cMO_pairs 11 = .ok (.if_icmp .ge 69, 3) := by decide +kernel
theorem dMO_pairs_14 : decode cMO_pairs 14 = .ok (.aload_n 1, 1) := by decide +kernel
theorem dMO_pairs_15 : decode cMO_pairs 15 = .ok (.iload_n 3, 1) := by decide +kernel
theorem dMO_pairs_16 : decode cMO_pairs 16 = .ok (.iaload, 1) := by decide +kernel
theorem dMO_pairs_17 : decode cMO_pairs 17 = .ok (.iconst 1, 1) := by decide +kernel
theorem dMO_pairs_18 : decode cMO_pairs 18 = .ok (.if_icmp .ne 56, 3) := by decide +kernel
theorem dMO_pairs_21 : decode cMO_pairs 21 = .ok (.iconst 1, 1) := by decide +kernel
theorem dMO_pairs_22 : decode cMO_pairs 22 = .ok (.istore 4, 2) := by decide +kernel
theorem dMO_pairs_24 : decode cMO_pairs 24 = .ok (.iload_n 3, 1) := by decide +kernel
theorem dMO_pairs_25 : decode cMO_pairs 25 = .ok (.istore 5, 2) := by decide +kernel
theorem dMO_pairs_27 : decode cMO_pairs 27 = .ok (.iload 4, 2) := by decide +kernel
theorem dMO_pairs_29 : decode cMO_pairs 29 = .ok (.ifCond .le 27, 3) := by decide +kernel
theorem dMO_pairs_32 : decode cMO_pairs 32 = .ok (.iinc 5 1, 3) := by decide +kernel
theorem dMO_pairs_35 : decode cMO_pairs 35 = .ok (.iload 4, 2) := by decide +kernel
theorem dMO_pairs_37 : decode cMO_pairs 37 = .ok (.aload_n 1, 1) := by decide +kernel
theorem dMO_pairs_38 : decode cMO_pairs 38 = .ok (.iload 5, 2) := by decide +kernel
theorem dMO_pairs_40 : decode cMO_pairs 40 = .ok (.iaload, 1) := by decide +kernel
theorem dMO_pairs_41 : decode cMO_pairs 41 = .ok (.iconst 1, 1) := by decide +kernel
theorem dMO_pairs_42 : decode cMO_pairs 42 = .ok (.if_icmp .ne 7, 3) := by decide +kernel
theorem dMO_pairs_45 : decode cMO_pairs 45 = .ok (.iconst 1, 1) := by decide +kernel
theorem dMO_pairs_46 : decode cMO_pairs 46 = .ok (.goto 4, 3) := by decide +kernel
theorem dMO_pairs_49 : decode cMO_pairs 49 = .ok (.iconst (-1), 1) := by decide +kernel
theorem dMO_pairs_50 : decode cMO_pairs 50 = .ok (.iadd, 1) := by decide +kernel
theorem dMO_pairs_51 : decode cMO_pairs 51 = .ok (.istore 4, 2) := by decide +kernel
theorem dMO_pairs_53 : decode cMO_pairs 53 = .ok (.goto (-26), 3) := by decide +kernel
theorem dMO_pairs_56 : decode cMO_pairs 56 = .ok (.aload_n 0, 1) := by decide +kernel
theorem dMO_pairs_57 : decode cMO_pairs 57 = .ok (.getfield 35, 3) := by decide +kernel
theorem dMO_pairs_60 : decode cMO_pairs 60 = .ok (.iload_n 2, 1) := by decide +kernel
theorem dMO_pairs_61 : decode cMO_pairs 61 = .ok (.iload_n 3, 1) := by decide +kernel
theorem dMO_pairs_62 : decode cMO_pairs 62 = .ok (.iastore, 1) := by decide +kernel
theorem dMO_pairs_63 : decode cMO_pairs 63 = .ok (.aload_n 0, 1) := by decide +kernel
theorem dMO_pairs_64 : decode cMO_pairs 64 = .ok (.getfield 38, 3) := by decide +kernel
theorem dMO_pairs_67 : decode cMO_pairs 67 = .ok (.iload_n 2, 1) := by decide +kernel
theorem dMO_pairs_68 : decode cMO_pairs 68 = .ok (.iload 5, 2) := by decide +kernel
theorem dMO_pairs_70 : decode cMO_pairs 70 = .ok (.iastore, 1) := by decide +kernel
theorem dMO_pairs_71 : decode cMO_pairs 71 = .ok (.iinc 2 1, 3) := by decide +kernel
theorem dMO_pairs_74 : decode cMO_pairs 74 = .ok (.iinc 3 1, 3) := by decide +kernel
theorem dMO_pairs_77 : decode cMO_pairs 77 = .ok (.goto (-73), 3) := by decide +kernel
theorem dMO_pairs_80 : decode cMO_pairs 80 = .ok (.return_, 1) := by decide +kernel
theorem dMO_onesBefore_0 : decode cMO_onesBefore 0 = .ok (.iconst 0, 1) := by decide +kernel
theorem dMO_onesBefore_1 : decode cMO_onesBefore 1 = .ok (.istore_n 2, 1) := by decide +kernel
theorem dMO_onesBefore_2 : decode cMO_onesBefore 2 = .ok (.iconst 0, 1) := by decide +kernel
theorem dMO_onesBefore_3 : decode cMO_onesBefore 3 = .ok (.istore_n 3, 1) := by decide +kernel
theorem dMO_onesBefore_4 : decode cMO_onesBefore 4 = .ok (.iload_n 3, 1) := by decide +kernel
theorem dMO_onesBefore_5 : decode cMO_onesBefore 5 = .ok (.iload_n 1, 1) := by decide +kernel
theorem dMO_onesBefore_6 : decode cMO_onesBefore 6 = .ok (.if_icmp .ge 15, 3) := by decide +kernel
theorem dMO_onesBefore_9 : decode cMO_onesBefore 9 = .ok (.iload_n 2, 1) := by decide +kernel
theorem dMO_onesBefore_10 : decode cMO_onesBefore 10 = .ok (.aload_n 0, 1) := by decide +kernel
theorem dMO_onesBefore_11 : decode cMO_onesBefore 11 = .ok (.iload_n 3, 1) := by decide +kernel
theorem dMO_onesBefore_12 : decode cMO_onesBefore 12 = .ok (.iaload, 1) := by decide +kernel
theorem dMO_onesBefore_13 : decode cMO_onesBefore 13 = .ok (.iadd, 1) := by decide +kernel
theorem dMO_onesBefore_14 : decode cMO_onesBefore 14 = .ok (.istore_n 2, 1) := by decide +kernel
theorem dMO_onesBefore_15 : decode cMO_onesBefore 15 = .ok (.iinc 3 1, 3) := by decide +kernel
theorem dMO_onesBefore_18 : decode cMO_onesBefore 18 = .ok (.goto (-14), 3) := by decide +kernel
theorem dMO_onesBefore_21 : decode cMO_onesBefore 21 = .ok (.iload_n 2, 1) := by decide +kernel
theorem dMO_onesBefore_22 : decode cMO_onesBefore 22 = .ok (.ireturn, 1) := by decide +kernel
theorem dMO_nodeAt_0 : decode cMO_nodeAt 0 = .ok (.iload_n 2, 1) := by decide +kernel
theorem dMO_nodeAt_1 : decode cMO_nodeAt 1 = .ok (.iconst 2, 1) := by decide +kernel
theorem dMO_nodeAt_2 : decode cMO_nodeAt 2 = .ok (.aload_n 0, 1) := by decide +kernel
theorem dMO_nodeAt_3 : decode cMO_nodeAt 3 = .ok (.getfield 7, 3) := by decide +kernel
theorem dMO_nodeAt_6 : decode cMO_nodeAt 6 = .ok (.imul, 1) := by decide +kernel
theorem dMO_nodeAt_7 : decode cMO_nodeAt 7 = .ok (.if_icmp .ge 14, 3) := by decide +kernel
theorem dMO_nodeAt_10 : decode cMO_nodeAt 10 = .ok (.aload_n 1, 1) := by decide +kernel
theorem dMO_nodeAt_11 : decode cMO_nodeAt 11 = .ok (.iload_n 2, 1) := by decide +kernel
theorem dMO_nodeAt_12 : decode cMO_nodeAt 12 = .ok (.iaload, 1) := by decide +kernel
theorem dMO_nodeAt_13 : decode cMO_nodeAt 13 = .ok (.iconst 1, 1) := by decide +kernel
theorem dMO_nodeAt_14 : decode cMO_nodeAt 14 = .ok (.if_icmp .ne 7, 3) := by decide +kernel
theorem dMO_nodeAt_17 : decode cMO_nodeAt 17 = .ok (.iconst 1, 1) := by decide +kernel
theorem dMO_nodeAt_18 : decode cMO_nodeAt 18 = .ok (.goto 4, 3) := by decide +kernel
theorem dMO_nodeAt_21 : decode cMO_nodeAt 21 = .ok (.iconst 0, 1) := by decide +kernel
theorem dMO_nodeAt_22 : decode cMO_nodeAt 22 = .ok (.istore_n 3, 1) := by decide +kernel
theorem dMO_nodeAt_23 : decode cMO_nodeAt 23 = .ok (.iload_n 3, 1) := by decide +kernel
theorem dMO_nodeAt_24 : decode cMO_nodeAt 24 = .ok (.ifCond .eq 11, 3) := by decide +kernel
theorem dMO_nodeAt_27 : decode cMO_nodeAt 27 = .ok (.aload_n 1, 1) := by decide +kernel
theorem dMO_nodeAt_28 : decode cMO_nodeAt 28 = .ok (.iload_n 2, 1) := by decide +kernel
theorem dMO_nodeAt_29 : decode cMO_nodeAt 29 = .ok (.invokestatic 80, 3) := by decide +kernel
theorem dMO_nodeAt_32 : decode cMO_nodeAt 32 = .ok (.goto 4, 3) := by decide +kernel
theorem dMO_nodeAt_35 : decode cMO_nodeAt 35 = .ok (.iconst (-1), 1) := by decide +kernel
theorem dMO_nodeAt_36 : decode cMO_nodeAt 36 = .ok (.ireturn, 1) := by decide +kernel
theorem dMO_showBinary_0 : decode cMO_showBinary 0 = .ok (.iconst 0, 1) := by decide +kernel
theorem dMO_showBinary_1 : decode cMO_showBinary 1 = .ok (.istore_n 3, 1) := by decide +kernel
theorem dMO_showBinary_2 : decode cMO_showBinary 2 = .ok (.iload_n 3, 1) := by decide +kernel
theorem dMO_showBinary_3 : decode cMO_showBinary 3 = .ok (.aload_n 0, 1) := by decide +kernel
theorem dMO_showBinary_4 : decode cMO_showBinary 4 = .ok (.getfield 7, 3) := by decide +kernel
theorem dMO_showBinary_7 : decode cMO_showBinary 7 = .ok (.if_icmp .ge 47, 3) := by decide +kernel
theorem dMO_showBinary_10 : decode cMO_showBinary 10 = .ok (.aload_n 2, 1) := by decide +kernel
theorem dMO_showBinary_11 : decode cMO_showBinary 11 = .ok (.iconst 2, 1) := by decide +kernel
theorem dMO_showBinary_12 : decode cMO_showBinary 12 = .ok (.iload_n 3, 1) := by decide +kernel
theorem dMO_showBinary_13 : decode cMO_showBinary 13 = .ok (.imul, 1) := by decide +kernel
theorem dMO_showBinary_14 : decode cMO_showBinary 14 = .ok (.aload_n 0, 1) := by decide +kernel
theorem dMO_showBinary_15 : decode cMO_showBinary 15 = .ok (.aload_n 1, 1) := by decide +kernel
theorem dMO_showBinary_16 : decode cMO_showBinary 16 = .ok (.aload_n 0, 1) := by decide +kernel
theorem dMO_showBinary_17 : decode cMO_showBinary 17 = .ok (.getfield 35, 3) := by decide +kernel
theorem dMO_showBinary_20 : decode cMO_showBinary 20 = .ok (.iload_n 3, 1) := by decide +kernel
theorem dMO_showBinary_21 : decode cMO_showBinary 21 = .ok (.iaload, 1) := by decide +kernel
theorem dMO_showBinary_22 : decode cMO_showBinary 22 = .ok (.iconst 1, 1) := by decide +kernel
theorem dMO_showBinary_23 : decode cMO_showBinary 23 = .ok (.iadd, 1) := by decide +kernel
theorem dMO_showBinary_24 : decode cMO_showBinary 24 = .ok (.invokevirtual 84, 3) := by decide +kernel
theorem dMO_showBinary_27 : decode cMO_showBinary 27 = .ok (.iastore, 1) := by decide +kernel
theorem dMO_showBinary_28 : decode cMO_showBinary 28 = .ok (.aload_n 2, 1) := by decide +kernel
theorem dMO_showBinary_29 : decode cMO_showBinary 29 = .ok (.iconst 2, 1) := by decide +kernel
theorem dMO_showBinary_30 : decode cMO_showBinary 30 = .ok (.iload_n 3, 1) := by decide +kernel
theorem dMO_showBinary_31 : decode cMO_showBinary 31 = .ok (.imul, 1) := by decide +kernel
theorem dMO_showBinary_32 : decode cMO_showBinary 32 = .ok (.iconst 1, 1) := by decide +kernel
theorem dMO_showBinary_33 : decode cMO_showBinary 33 = .ok (.iadd, 1) := by decide +kernel
theorem dMO_showBinary_34 : decode cMO_showBinary 34 = .ok (.aload_n 0, 1) := by decide +kernel
theorem dMO_showBinary_35 : decode cMO_showBinary 35 = .ok (.aload_n 1, 1) := by decide +kernel
theorem dMO_showBinary_36 : decode cMO_showBinary 36 = .ok (.aload_n 0, 1) := by decide +kernel
theorem dMO_showBinary_37 : decode cMO_showBinary 37 = .ok (.getfield 38, 3) := by decide +kernel
theorem dMO_showBinary_40 : decode cMO_showBinary 40 = .ok (.iload_n 3, 1) := by decide +kernel
theorem dMO_showBinary_41 : decode cMO_showBinary 41 = .ok (.iaload, 1) := by decide +kernel
theorem dMO_showBinary_42 : decode cMO_showBinary 42 = .ok (.iconst 1, 1) := by decide +kernel
theorem dMO_showBinary_43 : decode cMO_showBinary 43 = .ok (.iadd, 1) := by decide +kernel
theorem dMO_showBinary_44 : decode cMO_showBinary 44 = .ok (.invokevirtual 84, 3) := by decide +kernel
theorem dMO_showBinary_47 : decode cMO_showBinary 47 = .ok (.iastore, 1) := by decide +kernel
theorem dMO_showBinary_48 : decode cMO_showBinary 48 = .ok (.iinc 3 1, 3) := by decide +kernel
theorem dMO_showBinary_51 : decode cMO_showBinary 51 = .ok (.goto (-49), 3) := by decide +kernel
theorem dMO_showBinary_54 : decode cMO_showBinary 54 = .ok (.iconst 2, 1) := by decide +kernel
theorem dMO_showBinary_55 : decode cMO_showBinary 55 = .ok (.aload_n 0, 1) := by decide +kernel
theorem dMO_showBinary_56 : decode cMO_showBinary 56 = .ok (.getfield 7, 3) := by decide +kernel
theorem dMO_showBinary_59 : decode cMO_showBinary 59 = .ok (.imul, 1) := by decide +kernel
theorem dMO_showBinary_60 : decode cMO_showBinary 60 = .ok (.ireturn, 1) := by decide +kernel
theorem dMO_showPlane_0 : decode cMO_showPlane 0 = .ok (.aload_n 1, 1) := by decide +kernel
theorem dMO_showPlane_1 : decode cMO_showPlane 1 = .ok (.iconst 0, 1) := by decide +kernel
theorem dMO_showPlane_2 : decode cMO_showPlane 2 = .ok (.iconst (-1), 1) := by decide +kernel
theorem dMO_showPlane_3 : decode cMO_showPlane 3 = .ok (.iastore, 1) := by decide +kernel
theorem dMO_showPlane_4 : decode cMO_showPlane 4 = .ok (.iconst 0, 1) := by decide +kernel
theorem dMO_showPlane_5 : decode cMO_showPlane 5 = .ok (.istore_n 2, 1) := by decide +kernel
theorem dMO_showPlane_6 : decode cMO_showPlane 6 = .ok (.iload_n 2, 1) := by decide +kernel
theorem dMO_showPlane_7 : decode cMO_showPlane 7 = .ok (.aload_n 0, 1) := by decide +kernel
theorem dMO_showPlane_8 : decode cMO_showPlane 8 = .ok (.getfield 7, 3) := by decide +kernel
theorem dMO_showPlane_11 : decode cMO_showPlane 11 = .ok (.if_icmp .ge 59, 3) := by decide +kernel
theorem dMO_showPlane_14 : decode cMO_showPlane 14 = .ok (.aload_n 1, 1) := by decide +kernel
theorem dMO_showPlane_15 : decode cMO_showPlane 15 = .ok (.iload_n 2, 1) := by decide +kernel
theorem dMO_showPlane_16 : decode cMO_showPlane 16 = .ok (.iconst 1, 1) := by decide +kernel
theorem dMO_showPlane_17 : decode cMO_showPlane 17 = .ok (.iadd, 1) := by decide +kernel
theorem dMO_showPlane_18 : decode cMO_showPlane 18 = .ok (.iconst 0, 1) := by decide +kernel
theorem dMO_showPlane_19 : decode cMO_showPlane 19 = .ok (.iastore, 1) := by decide +kernel
theorem dMO_showPlane_20 : decode cMO_showPlane 20 = .ok (.iconst 0, 1) := by decide +kernel
theorem dMO_showPlane_21 : decode cMO_showPlane 21 = .ok (.istore_n 3, 1) := by decide +kernel
theorem dMO_showPlane_22 : decode cMO_showPlane 22 = .ok (.iload_n 3, 1) := by decide +kernel
theorem dMO_showPlane_23 : decode cMO_showPlane 23 = .ok (.iload_n 2, 1) := by decide +kernel
theorem dMO_showPlane_24 : decode cMO_showPlane 24 = .ok (.if_icmp .ge 40, 3) := by decide +kernel
theorem dMO_showPlane_27 : decode cMO_showPlane 27 = .ok (.aload_n 1, 1) := by decide +kernel
theorem dMO_showPlane_28 : decode cMO_showPlane 28 = .ok (.iload_n 2, 1) := by decide +kernel
theorem dMO_showPlane_29 : decode cMO_showPlane 29 = .ok (.iconst 1, 1) := by decide +kernel
theorem dMO_showPlane_30 : decode cMO_showPlane 30 = .ok (.iadd, 1) := by decide +kernel
theorem dMO_showPlane_31 : decode cMO_showPlane 31 = .ok (.aload_n 0, 1) := by decide +kernel
theorem dMO_showPlane_32 : decode cMO_showPlane 32 = .ok (.getfield 38, 3) := by decide +kernel
theorem dMO_showPlane_35 : decode cMO_showPlane 35 = .ok (.iload_n 3, 1) := by decide +kernel
theorem dMO_showPlane_36 : decode cMO_showPlane 36 = .ok (.iaload, 1) := by decide +kernel
theorem dMO_showPlane_37 : decode cMO_showPlane 37 = .ok (.aload_n 0, 1) := by decide +kernel
theorem dMO_showPlane_38 : decode cMO_showPlane 38 = .ok (.getfield 38, 3) := by decide +kernel
theorem dMO_showPlane_41 : decode cMO_showPlane 41 = .ok (.iload_n 2, 1) := by decide +kernel
theorem dMO_showPlane_42 : decode cMO_showPlane 42 = .ok (.iaload, 1) := by decide +kernel
theorem dMO_showPlane_43 : decode cMO_showPlane 43 = .ok (.if_icmp .le 9, 3) := by decide +kernel
theorem dMO_showPlane_46 : decode cMO_showPlane 46 = .ok (.iload_n 3, 1) := by decide +kernel
theorem dMO_showPlane_47 : decode cMO_showPlane 47 = .ok (.iconst 1, 1) := by decide +kernel
theorem dMO_showPlane_48 : decode cMO_showPlane 48 = .ok (.iadd, 1) := by decide +kernel
theorem dMO_showPlane_49 : decode cMO_showPlane 49 = .ok (.goto 8, 3) := by decide +kernel
theorem dMO_showPlane_52 : decode cMO_showPlane 52 = .ok (.aload_n 1, 1) := by decide +kernel
theorem dMO_showPlane_53 : decode cMO_showPlane 53 = .ok (.iload_n 2, 1) := by decide +kernel
theorem dMO_showPlane_54 : decode cMO_showPlane 54 = .ok (.iconst 1, 1) := by decide +kernel
theorem dMO_showPlane_55 : decode cMO_showPlane 55 = .ok (.iadd, 1) := by decide +kernel
theorem dMO_showPlane_56 : decode cMO_showPlane 56 = .ok (.iaload, 1) := by decide +kernel
theorem dMO_showPlane_57 : decode cMO_showPlane 57 = .ok (.iastore, 1) := by decide +kernel
theorem dMO_showPlane_58 : decode cMO_showPlane 58 = .ok (.iinc 3 1, 3) := by decide +kernel
theorem dMO_showPlane_61 : decode cMO_showPlane 61 = .ok (.goto (-39), 3) := by decide +kernel
theorem dMO_showPlane_64 : decode cMO_showPlane 64 = .ok (.iinc 2 1, 3) := by decide +kernel
theorem dMO_showPlane_67 : decode cMO_showPlane 67 = .ok (.goto (-61), 3) := by decide +kernel
theorem dMO_showPlane_70 : decode cMO_showPlane 70 = .ok (.aload_n 0, 1) := by decide +kernel
theorem dMO_showPlane_71 : decode cMO_showPlane 71 = .ok (.getfield 7, 3) := by decide +kernel
theorem dMO_showPlane_74 : decode cMO_showPlane 74 = .ok (.iconst 1, 1) := by decide +kernel
theorem dMO_showPlane_75 : decode cMO_showPlane 75 = .ok (.iadd, 1) := by decide +kernel
theorem dMO_showPlane_76 : decode cMO_showPlane 76 = .ok (.ireturn, 1) := by decide +kernel
theorem dMO_showDiagonals_0 : decode cMO_showDiagonals 0 = .ok (.aload_n 0, 1) := by decide +kernel
theorem dMO_showDiagonals_1 : decode cMO_showDiagonals 1 = .ok (.getfield 29, 3) := by decide +kernel
theorem dMO_showDiagonals_4 : decode cMO_showDiagonals 4 = .ok (.iconst 0, 1) := by decide +kernel
theorem dMO_showDiagonals_5 : decode cMO_showDiagonals 5 = .ok (.iconst 0, 1) := by decide +kernel
theorem dMO_showDiagonals_6 : decode cMO_showDiagonals 6 = .ok (.iastore, 1) := by decide +kernel
theorem dMO_showDiagonals_7 : decode cMO_showDiagonals 7 = .ok (.aload_n 0, 1) := by decide +kernel
theorem dMO_showDiagonals_8 : decode cMO_showDiagonals 8 = .ok (.getfield 32, 3) := by decide +kernel
theorem dMO_showDiagonals_11 : decode cMO_showDiagonals 11 = .ok (.iconst 0, 1) := by decide +kernel
theorem dMO_showDiagonals_12 : decode cMO_showDiagonals 12 = .ok (.aload_n 0, 1) := by decide +kernel
theorem dMO_showDiagonals_13 : decode cMO_showDiagonals 13 = .ok (.getfield 7, 3) := by decide +kernel
theorem dMO_showDiagonals_16 : decode cMO_showDiagonals 16 = .ok (.iconst 1, 1) := by decide +kernel
theorem dMO_showDiagonals_17 : decode cMO_showDiagonals 17 = .ok (.iadd, 1) := by decide +kernel
theorem dMO_showDiagonals_18 : decode cMO_showDiagonals 18 = .ok (.iastore, 1) := by decide +kernel
theorem dMO_showDiagonals_19 : decode cMO_showDiagonals 19 = .ok (.iconst 0, 1) := by decide +kernel
theorem dMO_showDiagonals_20 : decode cMO_showDiagonals 20 = .ok (.istore_n 3, 1) := by decide +kernel
theorem dMO_showDiagonals_21 : decode cMO_showDiagonals 21 = .ok (.iload_n 3, 1) := by decide +kernel
theorem dMO_showDiagonals_22 : decode cMO_showDiagonals 22 = .ok (.aload_n 0, 1) := by decide +kernel
theorem dMO_showDiagonals_23 : decode cMO_showDiagonals 23 = .ok (.getfield 7, 3) := by decide +kernel
theorem dMO_showDiagonals_26 : decode cMO_showDiagonals 26 = .ok (.if_icmp .ge 119, 3) := by decide +kernel
theorem dMO_showDiagonals_29 : decode cMO_showDiagonals 29 = .ok (.aload_n 0, 1) := by decide +kernel
theorem dMO_showDiagonals_30 : decode cMO_showDiagonals 30 = .ok (.getfield 29, 3) := by decide +kernel
theorem dMO_showDiagonals_33 : decode cMO_showDiagonals 33 = .ok (.iload_n 3, 1) := by decide +kernel
theorem dMO_showDiagonals_34 : decode cMO_showDiagonals 34 = .ok (.iaload, 1) := by decide +kernel
theorem dMO_showDiagonals_35 : decode cMO_showDiagonals 35 = .ok (.iconst 1, 1) := by decide +kernel
theorem dMO_showDiagonals_36 : decode cMO_showDiagonals 36 = .ok (.iadd, 1) := by decide +kernel
theorem dMO_showDiagonals_37 : decode cMO_showDiagonals 37 = .ok (.aload_n 0, 1) := by decide +kernel
theorem dMO_showDiagonals_38 : decode cMO_showDiagonals 38 = .ok (.getfield 38, 3) := by decide +kernel
theorem dMO_showDiagonals_41 : decode cMO_showDiagonals 41 = .ok (.iload_n 3, 1) := by decide +kernel
theorem dMO_showDiagonals_42 : decode cMO_showDiagonals 42 = .ok (.iaload, 1) := by decide +kernel
theorem dMO_showDiagonals_43 : decode cMO_showDiagonals 43 = .ok (.aload_n 0, 1) := by decide +kernel
theorem dMO_showDiagonals_44 : decode cMO_showDiagonals 44 = .ok (.getfield 35, 3) := by decide +kernel
theorem dMO_showDiagonals_47 : decode cMO_showDiagonals 47 = .ok (.iload_n 3, 1) := by decide +kernel
theorem dMO_showDiagonals_48 : decode cMO_showDiagonals 48 = .ok (.iaload, 1) := by decide +kernel
theorem dMO_showDiagonals_49 : decode cMO_showDiagonals 49 = .ok (.isub, 1) := by decide +kernel
theorem dMO_showDiagonals_50 : decode cMO_showDiagonals 50 = .ok (.iconst 2, 1) := by decide +kernel
theorem dMO_showDiagonals_51 : decode cMO_showDiagonals 51 = .ok (.idiv, 1) := by decide +kernel
theorem dMO_showDiagonals_52 : decode cMO_showDiagonals 52 = .ok (.iadd, 1) := by decide +kernel
theorem dMO_showDiagonals_53 : decode cMO_showDiagonals 53 = .ok (.istore 4, 2) := by decide +kernel
theorem dMO_showDiagonals_55 : decode cMO_showDiagonals 55 = .ok (.aload_n 0, 1) := by decide +kernel
theorem dMO_showDiagonals_56 : decode cMO_showDiagonals 56 = .ok (.aload_n 1, 1) := by decide +kernel
theorem dMO_showDiagonals_57 : decode cMO_showDiagonals 57 = .ok (.aload_n 0, 1) := by decide +kernel
theorem dMO_showDiagonals_58 : decode cMO_showDiagonals 58 = .ok (.getfield 35, 3) := by decide +kernel
theorem dMO_showDiagonals_61 : decode cMO_showDiagonals 61 = .ok (.iload_n 3, 1) := by decide +kernel
theorem dMO_showDiagonals_62 : decode cMO_showDiagonals 62 = .ok (.iaload, 1) := by decide +kernel
theorem dMO_showDiagonals_63 : decode cMO_showDiagonals 63 = .ok (.iconst 1, 1) := by decide +kernel
theorem dMO_showDiagonals_64 : decode cMO_showDiagonals 64 = .ok (.iadd, 1) := by decide +kernel
theorem dMO_showDiagonals_65 : decode cMO_showDiagonals 65 = .ok (.invokevirtual 84, 3) := by decide +kernel
theorem dMO_showDiagonals_68 : decode cMO_showDiagonals 68 = .ok (.istore 5, 2) := by decide +kernel
theorem dMO_showDiagonals_70 : decode cMO_showDiagonals 70 = .ok (.aload_n 0, 1) := by decide +kernel
theorem dMO_showDiagonals_71 : decode cMO_showDiagonals 71 = .ok (.aload_n 1, 1) := by decide +kernel
theorem dMO_showDiagonals_72 : decode cMO_showDiagonals 72 = .ok (.aload_n 0, 1) := by decide +kernel
theorem dMO_showDiagonals_73 : decode cMO_showDiagonals 73 = .ok (.getfield 38, 3) := by decide +kernel
theorem dMO_showDiagonals_76 : decode cMO_showDiagonals 76 = .ok (.iload_n 3, 1) := by decide +kernel
theorem dMO_showDiagonals_77 : decode cMO_showDiagonals 77 = .ok (.iaload, 1) := by decide +kernel
theorem dMO_showDiagonals_78 : decode cMO_showDiagonals 78 = .ok (.iconst 1, 1) := by decide +kernel
theorem dMO_showDiagonals_79 : decode cMO_showDiagonals 79 = .ok (.iadd, 1) := by decide +kernel
theorem dMO_showDiagonals_80 : decode cMO_showDiagonals 80 = .ok (.invokevirtual 84, 3) := by decide +kernel
theorem dMO_showDiagonals_83 : decode cMO_showDiagonals 83 = .ok (.istore 6, 2) := by decide +kernel
theorem dMO_showDiagonals_85 : decode cMO_showDiagonals 85 = .ok (.iload 5, 2) := by decide +kernel
theorem dMO_showDiagonals_87 : decode cMO_showDiagonals 87 = .ok (.ifCond .lt 25, 3) := by decide +kernel
theorem dMO_showDiagonals_90 : decode cMO_showDiagonals 90 = .ok (.aload_n 0, 1) := by decide +kernel
theorem dMO_showDiagonals_91 : decode cMO_showDiagonals 91 = .ok (.getfield 29, 3) := by decide +kernel
theorem dMO_showDiagonals_94 : decode cMO_showDiagonals 94 = .ok (.iload 5, 2) := by decide +kernel
theorem dMO_showDiagonals_96 : decode cMO_showDiagonals 96 = .ok (.aload_n 0, 1) := by decide +kernel
theorem dMO_showDiagonals_97 : decode cMO_showDiagonals 97 = .ok (.getfield 29, 3) := by decide +kernel
theorem dMO_showDiagonals_100 : decode cMO_showDiagonals 100 = .ok (.iload_n 3, 1) := by decide +kernel
theorem dMO_showDiagonals_101 : decode cMO_showDiagonals 101 = .ok (.iaload, 1) := by decide +kernel
theorem dMO_showDiagonals_102 : decode cMO_showDiagonals 102 = .ok (.iastore, 1) := by decide +kernel
theorem dMO_showDiagonals_103 : decode cMO_showDiagonals 103 = .ok (.aload_n 0, 1) := by decide +kernel
theorem dMO_showDiagonals_104 : decode cMO_showDiagonals 104 = .ok (.getfield 32, 3) := by decide +kernel
theorem dMO_showDiagonals_107 : decode cMO_showDiagonals 107 = .ok (.iload 5, 2) := by decide +kernel
theorem dMO_showDiagonals_109 : decode cMO_showDiagonals 109 = .ok (.iload 4, 2) := by decide +kernel
theorem dMO_showDiagonals_111 : decode cMO_showDiagonals 111 = .ok (.iastore, 1) := by decide +kernel
theorem dMO_showDiagonals_112 : decode cMO_showDiagonals 112 = .ok (.iload 6, 2) := by decide +kernel
theorem dMO_showDiagonals_114 : decode cMO_showDiagonals 114 = .ok (.ifCond .lt 25, 3) := by decide +kernel
theorem dMO_showDiagonals_117 : decode cMO_showDiagonals 117 = .ok (.aload_n 0, 1) := by decide +kernel
theorem dMO_showDiagonals_118 : decode cMO_showDiagonals 118 = .ok (.getfield 29, 3) := by decide +kernel
theorem dMO_showDiagonals_121 : decode cMO_showDiagonals 121 = .ok (.iload 6, 2) := by decide +kernel
theorem dMO_showDiagonals_123 : decode cMO_showDiagonals 123 = .ok (.iload 4, 2) := by decide +kernel
theorem dMO_showDiagonals_125 : decode cMO_showDiagonals 125 = .ok (.iastore, 1) := by decide +kernel
theorem dMO_showDiagonals_126 : decode cMO_showDiagonals 126 = .ok (.aload_n 0, 1) := by decide +kernel
theorem dMO_showDiagonals_127 : decode cMO_showDiagonals 127 = .ok (.getfield 32, 3) := by decide +kernel
theorem dMO_showDiagonals_130 : decode cMO_showDiagonals 130 = .ok (.iload 6, 2) := by decide +kernel
theorem dMO_showDiagonals_132 : decode cMO_showDiagonals 132 = .ok (.aload_n 0, 1) := by decide +kernel
theorem dMO_showDiagonals_133 : decode cMO_showDiagonals 133 = .ok (.getfield 32, 3) := by decide +kernel
theorem dMO_showDiagonals_136 : decode cMO_showDiagonals 136 = .ok (.iload_n 3, 1) := by decide +kernel
theorem dMO_showDiagonals_137 : decode cMO_showDiagonals 137 = .ok (.iaload, 1) := by decide +kernel
theorem dMO_showDiagonals_138 : decode cMO_showDiagonals 138 = .ok (.iastore, 1) := by decide +kernel
theorem dMO_showDiagonals_139 : decode cMO_showDiagonals 139 = .ok (.iinc 3 1, 3) := by decide +kernel
theorem dMO_showDiagonals_142 : decode cMO_showDiagonals 142 = .ok (.goto (-121), 3) := by decide +kernel
theorem dMO_showDiagonals_145 : decode cMO_showDiagonals 145 = .ok (.iconst 0, 1) := by decide +kernel
theorem dMO_showDiagonals_146 : decode cMO_showDiagonals 146 = .ok (.istore_n 3, 1) := by decide +kernel
theorem dMO_showDiagonals_147 : decode cMO_showDiagonals 147 = .ok (.iconst 0, 1) := by decide +kernel
theorem dMO_showDiagonals_148 : decode cMO_showDiagonals 148 = .ok (.istore 4, 2) := by decide +kernel
theorem dMO_showDiagonals_150 : decode cMO_showDiagonals 150 = .ok (.iload 4, 2) := by decide +kernel
theorem dMO_showDiagonals_152 : decode cMO_showDiagonals 152 = .ok (.aload_n 0, 1) := by decide +kernel
theorem dMO_showDiagonals_153 : decode cMO_showDiagonals 153 = .ok (.getfield 7, 3) := by decide +kernel
theorem dMO_showDiagonals_156 : decode cMO_showDiagonals 156 = .ok (.if_icmp .gt 109, 3) := by decide +kernel
theorem dMO_showDiagonals_159 : decode cMO_showDiagonals 159 = .ok (.iload 4, 2) := by decide +kernel
theorem dMO_showDiagonals_161 : decode cMO_showDiagonals 161 = .ok (.iconst 2, 1) := by decide +kernel
theorem dMO_showDiagonals_162 : decode cMO_showDiagonals 162 = .ok (.iadd, 1) := by decide +kernel
theorem dMO_showDiagonals_163 : decode cMO_showDiagonals 163 = .ok (.istore 5, 2) := by decide +kernel
theorem dMO_showDiagonals_165 : decode cMO_showDiagonals 165 = .ok (.iload 5, 2) := by decide +kernel
theorem dMO_showDiagonals_167 : decode cMO_showDiagonals 167 = .ok (.aload_n 0, 1) := by decide +kernel
theorem dMO_showDiagonals_168 : decode cMO_showDiagonals 168 = .ok (.getfield 7, 3) := by decide +kernel
theorem dMO_showDiagonals_171 : decode cMO_showDiagonals 171 = .ok (.iconst 1, 1) := by decide +kernel
theorem dMO_showDiagonals_172 : decode cMO_showDiagonals 172 = .ok (.iadd, 1) := by decide +kernel
theorem dMO_showDiagonals_173 : decode cMO_showDiagonals 173 = .ok (.if_icmp .gt 86, 3) := by decide +kernel
theorem dMO_showDiagonals_176 : decode cMO_showDiagonals 176 = .ok (.iconst 0, 1) := by decide +kernel
theorem dMO_showDiagonals_177 : decode cMO_showDiagonals 177 = .ok (.istore 6, 2) := by decide +kernel
theorem dMO_showDiagonals_179 : decode cMO_showDiagonals 179 = .ok (.iconst 1, 1) := by decide +kernel
theorem dMO_showDiagonals_180 : decode cMO_showDiagonals 180 = .ok (.istore 7, 2) := by decide +kernel
theorem dMO_showDiagonals_182 : decode cMO_showDiagonals 182 = .ok (.iload 7, 2) := by decide +kernel
theorem dMO_showDiagonals_184 : decode cMO_showDiagonals 184 = .ok (.aload_n 0, 1) := by decide +kernel
theorem dMO_showDiagonals_185 : decode cMO_showDiagonals 185 = .ok (.getfield 7, 3) := by decide +kernel
theorem dMO_showDiagonals_188 : decode cMO_showDiagonals 188 = .ok (.if_icmp .ge 45, 3) := by decide +kernel
theorem dMO_showDiagonals_191 : decode cMO_showDiagonals 191 = .ok (.iload 6, 2) := by decide +kernel
theorem dMO_showDiagonals_193 : decode cMO_showDiagonals 193 = .ok (.ifCond .ne 27, 3) := by decide +kernel
theorem dMO_showDiagonals_196 : decode cMO_showDiagonals 196 = .ok (.aload_n 0, 1) := by decide +kernel
theorem dMO_showDiagonals_197 : decode cMO_showDiagonals 197 = .ok (.getfield 29, 3) := by decide +kernel
theorem dMO_showDiagonals_200 : decode cMO_showDiagonals 200 = .ok (.iload 7, 2) := by decide +kernel
theorem dMO_showDiagonals_202 : decode cMO_showDiagonals 202 = .ok (.iaload, 1) := by decide +kernel
theorem dMO_showDiagonals_203 : decode cMO_showDiagonals 203 = .ok (.iload 4, 2) := by decide +kernel
theorem dMO_showDiagonals_205 : decode cMO_showDiagonals 205 = .ok (.if_icmp .ne 19, 3) := by decide +kernel
theorem dMO_showDiagonals_208 : decode cMO_showDiagonals 208 = .ok (.aload_n 0, 1) := by decide +kernel
theorem dMO_showDiagonals_209 : decode cMO_showDiagonals 209 = .ok (.getfield 32, 3) := by decide +kernel
theorem dMO_showDiagonals_212 : decode cMO_showDiagonals 212 = .ok (.iload 7, 2) := by decide +kernel
theorem dMO_showDiagonals_214 : decode cMO_showDiagonals 214 = .ok (.iaload, 1) := by decide +kernel
theorem dMO_showDiagonals_215 : decode cMO_showDiagonals 215 = .ok (.iload 5, 2) := by decide +kernel
theorem dMO_showDiagonals_217 : decode cMO_showDiagonals 217 = .ok (.if_icmp .ne 7, 3) := by decide +kernel
theorem dMO_showDiagonals_220 : decode cMO_showDiagonals 220 = .ok (.iconst 1, 1) := by decide +kernel
theorem dMO_showDiagonals_221 : decode cMO_showDiagonals 221 = .ok (.goto 4, 3) := by decide +kernel
theorem dMO_showDiagonals_224 : decode cMO_showDiagonals 224 = .ok (.iconst 0, 1) := by decide +kernel
theorem dMO_showDiagonals_225 : decode cMO_showDiagonals 225 = .ok (.istore 6, 2) := by decide +kernel
theorem dMO_showDiagonals_227 : decode cMO_showDiagonals 227 = .ok (.iinc 7 1, 3) := by decide +kernel
theorem dMO_showDiagonals_230 : decode cMO_showDiagonals 230 = .ok (.goto (-48), 3) := by decide +kernel
theorem dMO_showDiagonals_233 : decode cMO_showDiagonals 233 = .ok (.iload 6, 2) := by decide +kernel
theorem dMO_showDiagonals_235 : decode cMO_showDiagonals 235 = .ok (.ifCond .eq 18, 3) := by decide +kernel
theorem dMO_showDiagonals_238 : decode cMO_showDiagonals 238 = .ok (.aload_n 2, 1) := by decide +kernel
theorem dMO_showDiagonals_239 : decode cMO_showDiagonals 239 = .ok (.iload_n 3, 1) := by decide +kernel
theorem dMO_showDiagonals_240 : decode cMO_showDiagonals 240 = .ok (.iload 4, 2) := by decide +kernel
theorem dMO_showDiagonals_242 : decode cMO_showDiagonals 242 = .ok (.iastore, 1) := by decide +kernel
theorem dMO_showDiagonals_243 : decode cMO_showDiagonals 243 = .ok (.aload_n 2, 1) := by decide +kernel
theorem dMO_showDiagonals_244 : decode cMO_showDiagonals 244 = .ok (.iload_n 3, 1) := by decide +kernel
theorem dMO_showDiagonals_245 : decode cMO_showDiagonals 245 = .ok (.iconst 1, 1) := by decide +kernel
theorem dMO_showDiagonals_246 : decode cMO_showDiagonals 246 = .ok (.iadd, 1) := by decide +kernel
theorem dMO_showDiagonals_247 : decode cMO_showDiagonals 247 = .ok (.iload 5, 2) := by decide +kernel
theorem dMO_showDiagonals_249 : decode cMO_showDiagonals 249 = .ok (.iastore, 1) := by decide +kernel
theorem dMO_showDiagonals_250 : decode cMO_showDiagonals 250 = .ok (.iinc 3 2, 3) := by decide +kernel
theorem dMO_showDiagonals_253 : decode cMO_showDiagonals 253 = .ok (.iinc 5 1, 3) := by decide +kernel
theorem dMO_showDiagonals_256 : decode cMO_showDiagonals 256 = .ok (.goto (-91), 3) := by decide +kernel
theorem dMO_showDiagonals_259 : decode cMO_showDiagonals 259 = .ok (.iinc 4 1, 3) := by decide +kernel
theorem dMO_showDiagonals_262 : decode cMO_showDiagonals 262 = .ok (.goto (-112), 3) := by decide +kernel
theorem dMO_showDiagonals_265 : decode cMO_showDiagonals 265 = .ok (.iload_n 3, 1) := by decide +kernel
theorem dMO_showDiagonals_266 : decode cMO_showDiagonals 266 = .ok (.ireturn, 1) := by decide +kernel
theorem dMO_showBlocks_0 : decode cMO_showBlocks 0 = .ok (.iconst 0, 1) := by decide +kernel
theorem dMO_showBlocks_1 : decode cMO_showBlocks 1 = .ok (.istore_n 3, 1) := by decide +kernel
theorem dMO_showBlocks_2 : decode cMO_showBlocks 2 = .ok (.iconst 0, 1) := by decide +kernel
theorem dMO_showBlocks_3 : decode cMO_showBlocks 3 = .ok (.istore 4, 2) := by decide +kernel
theorem dMO_showBlocks_5 : decode cMO_showBlocks 5 = .ok (.iconst 0, 1) := by decide +kernel
theorem dMO_showBlocks_6 : decode cMO_showBlocks 6 = .ok (.istore 5, 2) := by decide +kernel
theorem dMO_showBlocks_8 : decode cMO_showBlocks 8 = .ok (.iload 5, 2) := by decide +kernel
theorem dMO_showBlocks_10 : decode cMO_showBlocks 10 = .ok (.iconst 2, 1) := by decide +kernel
theorem dMO_showBlocks_11 : decode cMO_showBlocks 11 = .ok (.aload_n 0, 1) := by decide +kernel
theorem dMO_showBlocks_12 : decode cMO_showBlocks 12 = .ok (.getfield 7, 3) := by decide +kernel
theorem dMO_showBlocks_15 : decode cMO_showBlocks 15 = .ok (.imul, 1) := by decide +kernel
theorem dMO_showBlocks_16 : decode cMO_showBlocks 16 = .ok (.if_icmp .ge 125, 3) := by decide +kernel
theorem dMO_showBlocks_19 : decode cMO_showBlocks 19 = .ok (.aload_n 1, 1) := by decide +kernel
theorem dMO_showBlocks_20 : decode cMO_showBlocks 20 = .ok (.iload 5, 2) := by decide +kernel
theorem dMO_showBlocks_22 : decode cMO_showBlocks 22 = .ok (.iaload, 1) := by decide +kernel
theorem dMO_showBlocks_23 : decode cMO_showBlocks 23 = .ok (.iconst 1, 1) := by decide +kernel
theorem dMO_showBlocks_24 : decode cMO_showBlocks 24 = .ok (.if_icmp .ne 20, 3) := by decide +kernel
theorem dMO_showBlocks_27 : decode cMO_showBlocks 27 = .ok (.aload_n 0, 1) := by decide +kernel
theorem dMO_showBlocks_28 : decode cMO_showBlocks 28 = .ok (.getfield 41, 3) := by decide +kernel
theorem dMO_showBlocks_31 : decode cMO_showBlocks 31 = .ok (.iload 4, 2) := by decide +kernel
theorem dMO_showBlocks_33 : decode cMO_showBlocks 33 = .ok (.iload_n 3, 1) := by decide +kernel
theorem dMO_showBlocks_34 : decode cMO_showBlocks 34 = .ok (.iastore, 1) := by decide +kernel
theorem dMO_showBlocks_35 : decode cMO_showBlocks 35 = .ok (.iinc 3 1, 3) := by decide +kernel
theorem dMO_showBlocks_38 : decode cMO_showBlocks 38 = .ok (.iinc 4 1, 3) := by decide +kernel
theorem dMO_showBlocks_41 : decode cMO_showBlocks 41 = .ok (.goto 94, 3) := by decide +kernel
theorem dMO_showBlocks_44 : decode cMO_showBlocks 44 = .ok (.aload_n 1, 1) := by decide +kernel
theorem dMO_showBlocks_45 : decode cMO_showBlocks 45 = .ok (.iload 5, 2) := by decide +kernel
theorem dMO_showBlocks_47 : decode cMO_showBlocks 47 = .ok (.iconst 1, 1) := by decide +kernel
theorem dMO_showBlocks_48 : decode cMO_showBlocks 48 = .ok (.isub, 1) := by decide +kernel
theorem dMO_showBlocks_49 : decode cMO_showBlocks 49 = .ok (.iaload, 1) := by decide +kernel
theorem dMO_showBlocks_50 : decode cMO_showBlocks 50 = .ok (.iconst 1, 1) := by decide +kernel
theorem dMO_showBlocks_51 : decode cMO_showBlocks 51 = .ok (.if_icmp .ne 84, 3) := by decide +kernel
theorem dMO_showBlocks_54 : decode cMO_showBlocks 54 = .ok (.iconst 0, 1) := by decide +kernel
theorem dMO_showBlocks_55 : decode cMO_showBlocks 55 = .ok (.istore 6, 2) := by decide +kernel
theorem dMO_showBlocks_57 : decode cMO_showBlocks 57 = .ok (.iload 5, 2) := by decide +kernel
theorem dMO_showBlocks_59 : decode cMO_showBlocks 59 = .ok (.iload 6, 2) := by decide +kernel
theorem dMO_showBlocks_61 : decode cMO_showBlocks 61 = .ok (.iadd, 1) := by decide +kernel
theorem dMO_showBlocks_62 : decode cMO_showBlocks 62 = .ok (.iconst 2, 1) := by decide +kernel
theorem dMO_showBlocks_63 : decode cMO_showBlocks 63 = .ok (.aload_n 0, 1) := by decide +kernel
theorem dMO_showBlocks_64 : decode cMO_showBlocks 64 = .ok (.getfield 7, 3) := by decide +kernel
theorem dMO_showBlocks_67 : decode cMO_showBlocks 67 = .ok (.imul, 1) := by decide +kernel
theorem dMO_showBlocks_68 : decode cMO_showBlocks 68 = .ok (.if_icmp .ge 19, 3) := by decide +kernel
theorem dMO_showBlocks_71 : decode cMO_showBlocks 71 = .ok (.aload_n 1, 1) := by decide +kernel
theorem dMO_showBlocks_72 : decode cMO_showBlocks 72 = .ok (.iload 5, 2) := by decide +kernel
theorem dMO_showBlocks_74 : decode cMO_showBlocks 74 = .ok (.iload 6, 2) := by decide +kernel
theorem dMO_showBlocks_76 : decode cMO_showBlocks 76 = .ok (.iadd, 1) := by decide +kernel
theorem dMO_showBlocks_77 : decode cMO_showBlocks 77 = .ok (.iaload, 1) := by decide +kernel
theorem dMO_showBlocks_78 : decode cMO_showBlocks 78 = .ok (.ifCond .ne 9, 3) := by decide +kernel
theorem dMO_showBlocks_81 : decode cMO_showBlocks 81 = .ok (.iinc 6 1, 3) := by decide +kernel
theorem dMO_showBlocks_84 : decode cMO_showBlocks 84 = .ok (.goto (-27), 3) := by decide +kernel
theorem dMO_showBlocks_87 : decode cMO_showBlocks 87 = .ok (.iload 4, 2) := by decide +kernel
theorem dMO_showBlocks_89 : decode cMO_showBlocks 89 = .ok (.iload 6, 2) := by decide +kernel
theorem dMO_showBlocks_91 : decode cMO_showBlocks 91 = .ok (.isub, 1) := by decide +kernel
theorem dMO_showBlocks_92 : decode cMO_showBlocks 92 = .ok (.istore 7, 2) := by decide +kernel
theorem dMO_showBlocks_94 : decode cMO_showBlocks 94 = .ok (.iload 7, 2) := by decide +kernel
theorem dMO_showBlocks_96 : decode cMO_showBlocks 96 = .ok (.iload 4, 2) := by decide +kernel
theorem dMO_showBlocks_98 : decode cMO_showBlocks 98 = .ok (.if_icmp .ge 30, 3) := by decide +kernel
theorem dMO_showBlocks_101 : decode cMO_showBlocks 101 = .ok (.aload_n 2, 1) := by decide +kernel
theorem dMO_showBlocks_102 : decode cMO_showBlocks 102 = .ok (.aload_n 0, 1) := by decide +kernel
theorem dMO_showBlocks_103 : decode cMO_showBlocks 103 = .ok (.getfield 41, 3) := by decide +kernel
theorem dMO_showBlocks_106 : decode cMO_showBlocks 106 = .ok (.iload 7, 2) := by decide +kernel
theorem dMO_showBlocks_108 : decode cMO_showBlocks 108 = .ok (.iaload, 1) := by decide +kernel
theorem dMO_showBlocks_109 : decode cMO_showBlocks 109 = .ok (.aload_n 0, 1) := by decide +kernel
theorem dMO_showBlocks_110 : decode cMO_showBlocks 110 = .ok (.getfield 41, 3) := by decide +kernel
theorem dMO_showBlocks_113 : decode cMO_showBlocks 113 = .ok (.iload 4, 2) := by decide +kernel
theorem dMO_showBlocks_115 : decode cMO_showBlocks 115 = .ok (.iload 6, 2) := by decide +kernel
theorem dMO_showBlocks_117 : decode cMO_showBlocks 117 = .ok (.isub, 1) := by decide +kernel
theorem dMO_showBlocks_118 : decode cMO_showBlocks 118 = .ok (.iaload, 1) := by decide +kernel
theorem dMO_showBlocks_119 : decode cMO_showBlocks 119 = .ok (.iconst 1, 1) := by decide +kernel
theorem dMO_showBlocks_120 : decode cMO_showBlocks 120 = .ok (.iadd, 1) := by decide +kernel
theorem dMO_showBlocks_121 : decode cMO_showBlocks 121 = .ok (.iastore, 1) := by decide +kernel
theorem dMO_showBlocks_122 : decode cMO_showBlocks 122 = .ok (.iinc 7 1, 3) := by decide +kernel
theorem dMO_showBlocks_125 : decode cMO_showBlocks 125 = .ok (.goto (-31), 3) := by decide +kernel
theorem dMO_showBlocks_128 : decode cMO_showBlocks 128 = .ok (.iload 4, 2) := by decide +kernel
theorem dMO_showBlocks_130 : decode cMO_showBlocks 130 = .ok (.iload 6, 2) := by decide +kernel
theorem dMO_showBlocks_132 : decode cMO_showBlocks 132 = .ok (.isub, 1) := by decide +kernel
theorem dMO_showBlocks_133 : decode cMO_showBlocks 133 = .ok (.istore 4, 2) := by decide +kernel
theorem dMO_showBlocks_135 : decode cMO_showBlocks 135 = .ok (.iinc 5 1, 3) := by decide +kernel
theorem dMO_showBlocks_138 : decode cMO_showBlocks 138 = .ok (.goto (-130), 3) := by decide +kernel
theorem dMO_showBlocks_141 : decode cMO_showBlocks 141 = .ok (.aload_n 0, 1) := by decide +kernel
theorem dMO_showBlocks_142 : decode cMO_showBlocks 142 = .ok (.getfield 7, 3) := by decide +kernel
theorem dMO_showBlocks_145 : decode cMO_showBlocks 145 = .ok (.ireturn, 1) := by decide +kernel
theorem dMO_showPermutation_0 : decode cMO_showPermutation 0 = .ok (.iconst 0, 1) := by decide +kernel
theorem dMO_showPermutation_1 : decode cMO_showPermutation 1 = .ok (.istore_n 3, 1) := by decide +kernel
theorem dMO_showPermutation_2 : decode cMO_showPermutation 2 = .ok (.iload_n 3, 1) := by decide +kernel
theorem dMO_showPermutation_3 : decode cMO_showPermutation 3 = .ok (.aload_n 0, 1) := by decide +kernel
theorem dMO_showPermutation_4 : decode cMO_showPermutation 4 = .ok (.getfield 7, 3) := by decide +kernel
theorem dMO_showPermutation_7 : decode cMO_showPermutation 7 = .ok (.if_icmp .ge 31, 3) := by decide +kernel
theorem dMO_showPermutation_10 : decode cMO_showPermutation 10 = .ok (.aload_n 2, 1) := by decide +kernel
theorem dMO_showPermutation_11 : decode cMO_showPermutation 11 = .ok (.iload_n 3, 1) := by decide +kernel
theorem dMO_showPermutation_12 : decode cMO_showPermutation 12 = .ok (.aload_n 0, 1) := by decide +kernel
theorem dMO_showPermutation_13 : decode cMO_showPermutation 13 = .ok (.getfield 38, 3) := by decide +kernel
theorem dMO_showPermutation_16 : decode cMO_showPermutation 16 = .ok (.iload_n 3, 1) := by decide +kernel
theorem dMO_showPermutation_17 : decode cMO_showPermutation 17 = .ok (.iaload, 1) := by decide +kernel
theorem dMO_showPermutation_18 : decode cMO_showPermutation 18 = .ok (.iconst 1, 1) := by decide +kernel
theorem dMO_showPermutation_19 : decode cMO_showPermutation 19 = .ok (.iadd, 1) := by decide +kernel
theorem dMO_showPermutation_20 : decode cMO_showPermutation 20 = .ok (.aload_n 1, 1) := by decide +kernel
theorem dMO_showPermutation_21 : decode cMO_showPermutation 21 = .ok (.aload_n 0, 1) := by decide +kernel
theorem dMO_showPermutation_22 : decode cMO_showPermutation 22 = .ok (.getfield 38, 3) := by decide +kernel
theorem dMO_showPermutation_25 : decode cMO_showPermutation 25 = .ok (.iload_n 3, 1) := by decide +kernel
theorem dMO_showPermutation_26 : decode cMO_showPermutation 26 = .ok (.iaload, 1) := by decide +kernel
theorem dMO_showPermutation_27 : decode cMO_showPermutation 27 = .ok (.invokestatic 80, 3) := by decide +kernel
theorem dMO_showPermutation_30 : decode cMO_showPermutation 30 = .ok (.isub, 1) := by decide +kernel
theorem dMO_showPermutation_31 : decode cMO_showPermutation 31 = .ok (.iastore, 1) := by decide +kernel
theorem dMO_showPermutation_32 : decode cMO_showPermutation 32 = .ok (.iinc 3 1, 3) := by decide +kernel
theorem dMO_showPermutation_35 : decode cMO_showPermutation 35 = .ok (.goto (-33), 3) := by decide +kernel
theorem dMO_showPermutation_38 : decode cMO_showPermutation 38 = .ok (.aload_n 0, 1) := by decide +kernel
theorem dMO_showPermutation_39 : decode cMO_showPermutation 39 = .ok (.getfield 7, 3) := by decide +kernel
theorem dMO_showPermutation_42 : decode cMO_showPermutation 42 = .ok (.ireturn, 1) := by decide +kernel
theorem dMO_write_0 : decode cMO_write 0 = .ok (.aload_n 0, 1) := by decide +kernel
theorem dMO_write_1 : decode cMO_write 1 = .ok (.aload_n 1, 1) := by decide +kernel
theorem dMO_write_2 : decode cMO_write 2 = .ok (.invokevirtual 87, 3) := by decide +kernel
theorem dMO_write_5 : decode cMO_write 5 = .ok (.iload_n 2, 1) := by decide +kernel
theorem dMO_write_6 : decode cMO_write 6 = .ok (.tableswitch 96 0 4 #[34, 69, 76, 82, 89], 34) := by decide +kernel
theorem dMO_write_40 : decode cMO_write 40 = .ok (.iconst 0, 1) := by decide +kernel
theorem dMO_write_41 : decode cMO_write 41 = .ok (.istore 4, 2) := by decide +kernel
theorem dMO_write_43 : decode cMO_write 43 = .ok (.iload 4, 2) := by decide +kernel
theorem dMO_write_45 : decode cMO_write 45 = .ok (.iconst 2, 1) := by decide +kernel
theorem dMO_write_46 : decode cMO_write 46 = .ok (.aload_n 0, 1) := by decide +kernel
theorem dMO_write_47 : decode cMO_write 47 = .ok (.getfield 7, 3) := by decide +kernel
theorem dMO_write_50 : decode cMO_write 50 = .ok (.imul, 1) := by decide +kernel
theorem dMO_write_51 : decode cMO_write 51 = .ok (.if_icmp .ge 17, 3) := by decide +kernel
theorem dMO_write_54 : decode cMO_write 54 = .ok (.aload_n 3, 1) := by decide +kernel
theorem dMO_write_55 : decode cMO_write 55 = .ok (.iload 4, 2) := by decide +kernel
theorem dMO_write_57 : decode cMO_write 57 = .ok (.aload_n 1, 1) := by decide +kernel
theorem dMO_write_58 : decode cMO_write 58 = .ok (.iload 4, 2) := by decide +kernel
theorem dMO_write_60 : decode cMO_write 60 = .ok (.iaload, 1) := by decide +kernel
theorem dMO_write_61 : decode cMO_write 61 = .ok (.iastore, 1) := by decide +kernel
theorem dMO_write_62 : decode cMO_write 62 = .ok (.iinc 4 1, 3) := by decide +kernel
theorem dMO_write_65 : decode cMO_write 65 = .ok (.goto (-22), 3) := by decide +kernel
theorem dMO_write_68 : decode cMO_write 68 = .ok (.iconst 2, 1) := by decide +kernel
theorem dMO_write_69 : decode cMO_write 69 = .ok (.aload_n 0, 1) := by decide +kernel
theorem dMO_write_70 : decode cMO_write 70 = .ok (.getfield 7, 3) := by decide +kernel
theorem dMO_write_73 : decode cMO_write 73 = .ok (.imul, 1) := by decide +kernel
theorem dMO_write_74 : decode cMO_write 74 = .ok (.ireturn, 1) := by decide +kernel
theorem dMO_write_75 : decode cMO_write 75 = .ok (.aload_n 0, 1) := by decide +kernel
theorem dMO_write_76 : decode cMO_write 76 = .ok (.aload_n 1, 1) := by decide +kernel
theorem dMO_write_77 : decode cMO_write 77 = .ok (.aload_n 3, 1) := by decide +kernel
theorem dMO_write_78 : decode cMO_write 78 = .ok (.invokevirtual 90, 3) := by decide +kernel
theorem dMO_write_81 : decode cMO_write 81 = .ok (.ireturn, 1) := by decide +kernel
theorem dMO_write_82 : decode cMO_write 82 = .ok (.aload_n 0, 1) := by decide +kernel
theorem dMO_write_83 : decode cMO_write 83 = .ok (.aload_n 3, 1) := by decide +kernel
theorem dMO_write_84 : decode cMO_write 84 = .ok (.invokevirtual 94, 3) := by decide +kernel
theorem dMO_write_87 : decode cMO_write 87 = .ok (.ireturn, 1) := by decide +kernel
theorem dMO_write_88 : decode cMO_write 88 = .ok (.aload_n 0, 1) := by decide +kernel
theorem dMO_write_89 : decode cMO_write 89 = .ok (.aload_n 1, 1) := by decide +kernel
theorem dMO_write_90 : decode cMO_write 90 = .ok (.aload_n 3, 1) := by decide +kernel
theorem dMO_write_91 : decode cMO_write 91 = .ok (.invokevirtual 98, 3) := by decide +kernel
theorem dMO_write_94 : decode cMO_write 94 = .ok (.ireturn, 1) := by decide +kernel
theorem dMO_write_95 : decode cMO_write 95 = .ok (.aload_n 0, 1) := by decide +kernel
theorem dMO_write_96 : decode cMO_write 96 = .ok (.aload_n 1, 1) := by decide +kernel
theorem dMO_write_97 : decode cMO_write 97 = .ok (.aload_n 3, 1) := by decide +kernel
theorem dMO_write_98 : decode cMO_write 98 = .ok (.invokevirtual 101, 3) := by decide +kernel
theorem dMO_write_101 : decode cMO_write 101 = .ok (.ireturn, 1) := by decide +kernel
theorem dMO_write_102 : decode cMO_write 102 = .ok (.aload_n 0, 1) := by decide +kernel
theorem dMO_write_103 : decode cMO_write 103 = .ok (.aload_n 1, 1) := by decide +kernel
theorem dMO_write_104 : decode cMO_write 104 = .ok (.aload_n 3, 1) := by decide +kernel
theorem dMO_write_105 : decode cMO_write 105 = .ok (.invokevirtual 104, 3) := by decide +kernel
theorem dMO_write_108 : decode cMO_write 108 = .ok (.ireturn, 1) := by decide +kernel
theorem dMO_show_0 : decode cMO_show 0 = .ok (.aload_n 0, 1) := by decide +kernel
theorem dMO_show_1 : decode cMO_show 1 = .ok (.iload_n 1, 1) := by decide +kernel
theorem dMO_show_2 : decode cMO_show 2 = .ok (.ifCond .lt 8, 3) := by decide +kernel
theorem dMO_show_5 : decode cMO_show 5 = .ok (.iload_n 1, 1) := by decide +kernel
theorem dMO_show_6 : decode cMO_show 6 = .ok (.iconst 5, 1) := by decide +kernel
theorem dMO_show_7 : decode cMO_show 7 = .ok (.if_icmp .le 7, 3) := by decide +kernel
theorem dMO_show_10 : decode cMO_show 10 = .ok (.iconst 1, 1) := by decide +kernel
theorem dMO_show_11 : decode cMO_show 11 = .ok (.goto 4, 3) := by decide +kernel
theorem dMO_show_14 : decode cMO_show 14 = .ok (.iconst 0, 1) := by decide +kernel
theorem dMO_show_15 : decode cMO_show 15 = .ok (.putfield 54, 3) := by decide +kernel
theorem dMO_show_18 : decode cMO_show 18 = .ok (.aload_n 0, 1) := by decide +kernel
theorem dMO_show_19 : decode cMO_show 19 = .ok (.getfield 54, 3) := by decide +kernel
theorem dMO_show_22 : decode cMO_show 22 = .ok (.ifCond .ne 19, 3) := by decide +kernel
theorem dMO_show_25 : decode cMO_show 25 = .ok (.aload_n 0, 1) := by decide +kernel
theorem dMO_show_26 : decode cMO_show 26 = .ok (.aload_n 0, 1) := by decide +kernel
theorem dMO_show_27 : decode cMO_show 27 = .ok (.getfield 13, 3) := by decide +kernel
theorem dMO_show_30 : decode cMO_show 30 = .ok (.iload_n 1, 1) := by decide +kernel
theorem dMO_show_31 : decode cMO_show 31 = .ok (.aload_n 0, 1) := by decide +kernel
theorem dMO_show_32 : decode cMO_show 32 = .ok (.getfield 17, 3) := by decide +kernel
theorem dMO_show_35 : decode cMO_show 35 = .ok (.invokevirtual 107, 3) := by decide +kernel
theorem dMO_show_38 : decode cMO_show 38 = .ok (.goto 4, 3) := by decide +kernel
theorem dMO_show_41 : decode cMO_show 41 = .ok (.iconst 0, 1) := by decide +kernel
theorem dMO_show_42 : decode cMO_show 42 = .ok (.ireturn, 1) := by decide +kernel
theorem dMO_find_0 : decode cMO_find 0 = .ok (.iconst 0, 1) := by decide +kernel
theorem dMO_find_1 : decode cMO_find 1 = .ok (.istore_n 3, 1) := by decide +kernel
theorem dMO_find_2 : decode cMO_find 2 = .ok (.aload_n 0, 1) := by decide +kernel
theorem dMO_find_3 : decode cMO_find 3 = .ok (.aload_n 0, 1) := by decide +kernel
theorem dMO_find_4 : decode cMO_find 4 = .ok (.getfield 20, 3) := by decide +kernel
theorem dMO_find_7 : decode cMO_find 7 = .ok (.invokevirtual 57, 3) := by decide +kernel
theorem dMO_find_10 : decode cMO_find 10 = .ok (.iconst 1, 1) := by decide +kernel
theorem dMO_find_11 : decode cMO_find 11 = .ok (.istore 4, 2) := by decide +kernel
theorem dMO_find_13 : decode cMO_find 13 = .ok (.iload 4, 2) := by decide +kernel
theorem dMO_find_15 : decode cMO_find 15 = .ok (.ifCond .eq 68, 3) := by decide +kernel
theorem dMO_find_18 : decode cMO_find 18 = .ok (.aload_n 0, 1) := by decide +kernel
theorem dMO_find_19 : decode cMO_find 19 = .ok (.aload_n 0, 1) := by decide +kernel
theorem dMO_find_20 : decode cMO_find 20 = .ok (.getfield 20, 3) := by decide +kernel
theorem dMO_find_23 : decode cMO_find 23 = .ok (.iload_n 1, 1) := by decide +kernel
theorem dMO_find_24 : decode cMO_find 24 = .ok (.aload_n 0, 1) := by decide +kernel
theorem dMO_find_25 : decode cMO_find 25 = .ok (.getfield 23, 3) := by decide +kernel
theorem dMO_find_28 : decode cMO_find 28 = .ok (.invokevirtual 107, 3) := by decide +kernel
theorem dMO_find_31 : decode cMO_find 31 = .ok (.istore 5, 2) := by decide +kernel
theorem dMO_find_33 : decode cMO_find 33 = .ok (.aload_n 0, 1) := by decide +kernel
theorem dMO_find_34 : decode cMO_find 34 = .ok (.aload_n 0, 1) := by decide +kernel
theorem dMO_find_35 : decode cMO_find 35 = .ok (.getfield 23, 3) := by decide +kernel
theorem dMO_find_38 : decode cMO_find 38 = .ok (.aload_n 2, 1) := by decide +kernel
theorem dMO_find_39 : decode cMO_find 39 = .ok (.iload 5, 2) := by decide +kernel
theorem dMO_find_41 : decode cMO_find 41 = .ok (.invokevirtual 69, 3) := by decide +kernel
theorem dMO_find_44 : decode cMO_find 44 = .ok (.ifCond .eq 23, 3) := by decide +kernel
theorem dMO_find_47 : decode cMO_find 47 = .ok (.aload_n 0, 1) := by decide +kernel
theorem dMO_find_48 : decode cMO_find 48 = .ok (.aload_n 0, 1) := by decide +kernel
theorem dMO_find_49 : decode cMO_find 49 = .ok (.getfield 20, 3) := by decide +kernel
theorem dMO_find_52 : decode cMO_find 52 = .ok (.aload_n 0, 1) := by decide +kernel
theorem dMO_find_53 : decode cMO_find 53 = .ok (.getfield 13, 3) := by decide +kernel
theorem dMO_find_56 : decode cMO_find 56 = .ok (.iconst 2, 1) := by decide +kernel
theorem dMO_find_57 : decode cMO_find 57 = .ok (.aload_n 0, 1) := by decide +kernel
theorem dMO_find_58 : decode cMO_find 58 = .ok (.getfield 7, 3) := by decide +kernel
theorem dMO_find_61 : decode cMO_find 61 = .ok (.imul, 1) := by decide +kernel
theorem dMO_find_62 : decode cMO_find 62 = .ok (.invokevirtual 76, 3) := by decide +kernel
theorem dMO_find_65 : decode cMO_find 65 = .ok (.iload_n 3, 1) := by decide +kernel
theorem dMO_find_66 : decode cMO_find 66 = .ok (.ireturn, 1) := by decide +kernel
theorem dMO_find_67 : decode cMO_find 67 = .ok (.aload_n 0, 1) := by decide +kernel
theorem dMO_find_68 : decode cMO_find 68 = .ok (.aload_n 0, 1) := by decide +kernel
theorem dMO_find_69 : decode cMO_find 69 = .ok (.getfield 20, 3) := by decide +kernel
theorem dMO_find_72 : decode cMO_find 72 = .ok (.invokevirtual 61, 3) := by decide +kernel
theorem dMO_find_75 : decode cMO_find 75 = .ok (.istore 4, 2) := by decide +kernel
theorem dMO_find_77 : decode cMO_find 77 = .ok (.iinc 3 1, 3) := by decide +kernel
theorem dMO_find_80 : decode cMO_find 80 = .ok (.goto (-67), 3) := by decide +kernel
theorem dMO_find_83 : decode cMO_find 83 = .ok (.iconst (-1), 1) := by decide +kernel
theorem dMO_find_84 : decode cMO_find 84 = .ok (.ireturn, 1) := by decide +kernel
theorem dMO_take_0 : decode cMO_take 0 = .ok (.aload_n 0, 1) := by decide +kernel
theorem dMO_take_1 : decode cMO_take 1 = .ok (.iload_n 1, 1) := by decide +kernel
theorem dMO_take_2 : decode cMO_take 2 = .ok (.ifCond .lt 8, 3) := by decide +kernel
theorem dMO_take_5 : decode cMO_take 5 = .ok (.iload_n 1, 1) := by decide +kernel
theorem dMO_take_6 : decode cMO_take 6 = .ok (.iconst 5, 1) := by decide +kernel
theorem dMO_take_7 : decode cMO_take 7 = .ok (.if_icmp .le 7, 3) := by decide +kernel
theorem dMO_take_10 : decode cMO_take 10 = .ok (.iconst 1, 1) := by decide +kernel
theorem dMO_take_11 : decode cMO_take 11 = .ok (.goto 4, 3) := by decide +kernel
theorem dMO_take_14 : decode cMO_take 14 = .ok (.iconst 0, 1) := by decide +kernel
theorem dMO_take_15 : decode cMO_take 15 = .ok (.putfield 54, 3) := by decide +kernel
theorem dMO_take_18 : decode cMO_take 18 = .ok (.aload_n 0, 1) := by decide +kernel
theorem dMO_take_19 : decode cMO_take 19 = .ok (.getfield 54, 3) := by decide +kernel
theorem dMO_take_22 : decode cMO_take 22 = .ok (.ifCond .le 5, 3) := by decide +kernel
theorem dMO_take_25 : decode cMO_take 25 = .ok (.iconst 0, 1) := by decide +kernel
theorem dMO_take_26 : decode cMO_take 26 = .ok (.ireturn, 1) := by decide +kernel
theorem dMO_take_27 : decode cMO_take 27 = .ok (.aload_n 0, 1) := by decide +kernel
theorem dMO_take_28 : decode cMO_take 28 = .ok (.iload_n 1, 1) := by decide +kernel
theorem dMO_take_29 : decode cMO_take 29 = .ok (.aload_n 0, 1) := by decide +kernel
theorem dMO_take_30 : decode cMO_take 30 = .ok (.getfield 17, 3) := by decide +kernel
theorem dMO_take_33 : decode cMO_take 33 = .ok (.invokevirtual 111, 3) := by decide +kernel
theorem dMO_take_36 : decode cMO_take 36 = .ok (.istore_n 2, 1) := by decide +kernel
theorem dMO_take_37 : decode cMO_take 37 = .ok (.aload_n 0, 1) := by decide +kernel
theorem dMO_take_38 : decode cMO_take 38 = .ok (.iload_n 2, 1) := by decide +kernel
theorem dMO_take_39 : decode cMO_take 39 = .ok (.ifCond .ge 7, 3) := by decide +kernel
theorem dMO_take_42 : decode cMO_take 42 = .ok (.iconst 2, 1) := by decide +kernel
theorem dMO_take_43 : decode cMO_take 43 = .ok (.goto 4, 3) := by decide +kernel
theorem dMO_take_46 : decode cMO_take 46 = .ok (.iconst 0, 1) := by decide +kernel
theorem dMO_take_47 : decode cMO_take 47 = .ok (.putfield 54, 3) := by decide +kernel
theorem dMO_take_50 : decode cMO_take 50 = .ok (.iload_n 2, 1) := by decide +kernel
theorem dMO_take_51 : decode cMO_take 51 = .ok (.ifCond .ge 7, 3) := by decide +kernel
theorem dMO_take_54 : decode cMO_take 54 = .ok (.iconst 0, 1) := by decide +kernel
theorem dMO_take_55 : decode cMO_take 55 = .ok (.goto 4, 3) := by decide +kernel
theorem dMO_take_58 : decode cMO_take 58 = .ok (.iload_n 2, 1) := by decide +kernel
theorem dMO_take_59 : decode cMO_take 59 = .ok (.ireturn, 1) := by decide +kernel
theorem dMO_mirror_0 : decode cMO_mirror 0 = .ok (.aload_n 0, 1) := by decide +kernel
theorem dMO_mirror_1 : decode cMO_mirror 1 = .ok (.iconst 0, 1) := by decide +kernel
theorem dMO_mirror_2 : decode cMO_mirror 2 = .ok (.putfield 54, 3) := by decide +kernel
theorem dMO_mirror_5 : decode cMO_mirror 5 = .ok (.iconst 0, 1) := by decide +kernel
theorem dMO_mirror_6 : decode cMO_mirror 6 = .ok (.istore_n 1, 1) := by decide +kernel
theorem dMO_mirror_7 : decode cMO_mirror 7 = .ok (.iload_n 1, 1) := by decide +kernel
theorem dMO_mirror_8 : decode cMO_mirror 8 = .ok (.iconst 2, 1) := by decide +kernel
theorem dMO_mirror_9 : decode cMO_mirror 9 = .ok (.aload_n 0, 1) := by decide +kernel
theorem dMO_mirror_10 : decode cMO_mirror 10 = .ok (.getfield 7, 3) := by decide +kernel
theorem dMO_mirror_13 : decode cMO_mirror 13 = .ok (.imul, 1) := by decide +kernel
theorem dMO_mirror_14 : decode cMO_mirror 14 = .ok (.if_icmp .ge 32, 3) := by decide +kernel
theorem dMO_mirror_17 : decode cMO_mirror 17 = .ok (.aload_n 0, 1) := by decide +kernel
theorem dMO_mirror_18 : decode cMO_mirror 18 = .ok (.getfield 26, 3) := by decide +kernel
theorem dMO_mirror_21 : decode cMO_mirror 21 = .ok (.iload_n 1, 1) := by decide +kernel
theorem dMO_mirror_22 : decode cMO_mirror 22 = .ok (.iconst 1, 1) := by decide +kernel
theorem dMO_mirror_23 : decode cMO_mirror 23 = .ok (.aload_n 0, 1) := by decide +kernel
theorem dMO_mirror_24 : decode cMO_mirror 24 = .ok (.getfield 13, 3) := by decide +kernel
theorem dMO_mirror_27 : decode cMO_mirror 27 = .ok (.iconst 2, 1) := by decide +kernel
theorem dMO_mirror_28 : decode cMO_mirror 28 = .ok (.aload_n 0, 1) := by decide +kernel
theorem dMO_mirror_29 : decode cMO_mirror 29 = .ok (.getfield 7, 3) := by decide +kernel
theorem dMO_mirror_32 : decode cMO_mirror 32 = .ok (.imul, 1) := by decide +kernel
theorem dMO_mirror_33 : decode cMO_mirror 33 = .ok (.iconst 1, 1) := by decide +kernel
theorem dMO_mirror_34 : decode cMO_mirror 34 = .ok (.isub, 1) := by decide +kernel
theorem dMO_mirror_35 : decode cMO_mirror 35 = .ok (.iload_n 1, 1) := by decide +kernel
theorem dMO_mirror_36 : decode cMO_mirror 36 = .ok (.isub, 1) := by decide +kernel
theorem dMO_mirror_37 : decode cMO_mirror 37 = .ok (.iaload, 1) := by decide +kernel
theorem dMO_mirror_38 : decode cMO_mirror 38 = .ok (.isub, 1) := by decide +kernel
theorem dMO_mirror_39 : decode cMO_mirror 39 = .ok (.iastore, 1) := by decide +kernel
theorem dMO_mirror_40 : decode cMO_mirror 40 = .ok (.iinc 1 1, 3) := by decide +kernel
theorem dMO_mirror_43 : decode cMO_mirror 43 = .ok (.goto (-36), 3) := by decide +kernel
theorem dMO_mirror_46 : decode cMO_mirror 46 = .ok (.aload_n 0, 1) := by decide +kernel
theorem dMO_mirror_47 : decode cMO_mirror 47 = .ok (.aload_n 0, 1) := by decide +kernel
theorem dMO_mirror_48 : decode cMO_mirror 48 = .ok (.getfield 26, 3) := by decide +kernel
theorem dMO_mirror_51 : decode cMO_mirror 51 = .ok (.aload_n 0, 1) := by decide +kernel
theorem dMO_mirror_52 : decode cMO_mirror 52 = .ok (.getfield 13, 3) := by decide +kernel
theorem dMO_mirror_55 : decode cMO_mirror 55 = .ok (.iconst 2, 1) := by decide +kernel
theorem dMO_mirror_56 : decode cMO_mirror 56 = .ok (.aload_n 0, 1) := by decide +kernel
theorem dMO_mirror_57 : decode cMO_mirror 57 = .ok (.getfield 7, 3) := by decide +kernel
theorem dMO_mirror_60 : decode cMO_mirror 60 = .ok (.imul, 1) := by decide +kernel
theorem dMO_mirror_61 : decode cMO_mirror 61 = .ok (.invokevirtual 76, 3) := by decide +kernel
theorem dMO_mirror_64 : decode cMO_mirror 64 = .ok (.aload_n 0, 1) := by decide +kernel
theorem dMO_mirror_65 : decode cMO_mirror 65 = .ok (.invokevirtual 73, 3) := by decide +kernel
theorem dMO_mirror_68 : decode cMO_mirror 68 = .ok (.ireturn, 1) := by decide +kernel
theorem dMO_wish_0 : decode cMO_wish 0 = .ok (.iload_n 1, 1) := by decide +kernel
theorem dMO_wish_1 : decode cMO_wish 1 = .ok (.iload_n 2, 1) := by decide +kernel
theorem dMO_wish_2 : decode cMO_wish 2 = .ok (.if_icmp .ge 7, 3) := by decide +kernel
theorem dMO_wish_5 : decode cMO_wish 5 = .ok (.iload_n 1, 1) := by decide +kernel
theorem dMO_wish_6 : decode cMO_wish 6 = .ok (.goto 4, 3) := by decide +kernel
theorem dMO_wish_9 : decode cMO_wish 9 = .ok (.iload_n 2, 1) := by decide +kernel
theorem dMO_wish_10 : decode cMO_wish 10 = .ok (.istore 4, 2) := by decide +kernel
theorem dMO_wish_12 : decode cMO_wish 12 = .ok (.iload_n 1, 1) := by decide +kernel
theorem dMO_wish_13 : decode cMO_wish 13 = .ok (.iload_n 2, 1) := by decide +kernel
theorem dMO_wish_14 : decode cMO_wish 14 = .ok (.if_icmp .ge 7, 3) := by decide +kernel
theorem dMO_wish_17 : decode cMO_wish 17 = .ok (.iload_n 2, 1) := by decide +kernel
theorem dMO_wish_18 : decode cMO_wish 18 = .ok (.goto 4, 3) := by decide +kernel
theorem dMO_wish_21 : decode cMO_wish 21 = .ok (.iload_n 1, 1) := by decide +kernel
theorem dMO_wish_22 : decode cMO_wish 22 = .ok (.istore 5, 2) := by decide +kernel
theorem dMO_wish_24 : decode cMO_wish 24 = .ok (.iload_n 3, 1) := by decide +kernel
theorem dMO_wish_25 : decode cMO_wish 25 = .ok (.istore 6, 2) := by decide +kernel
theorem dMO_wish_27 : decode cMO_wish 27 = .ok (.iload 6, 2) := by decide +kernel
theorem dMO_wish_29 : decode cMO_wish 29 = .ok (.ifCond .le 85, 3) := by decide +kernel
theorem dMO_wish_32 : decode cMO_wish 32 = .ok (.aload_n 0, 1) := by decide +kernel
theorem dMO_wish_33 : decode cMO_wish 33 = .ok (.getfield 26, 3) := by decide +kernel
theorem dMO_wish_36 : decode cMO_wish 36 = .ok (.iload 6, 2) := by decide +kernel
theorem dMO_wish_38 : decode cMO_wish 38 = .ok (.iconst 2, 1) := by decide +kernel
theorem dMO_wish_39 : decode cMO_wish 39 = .ok (.isub, 1) := by decide +kernel
theorem dMO_wish_40 : decode cMO_wish 40 = .ok (.iaload, 1) := by decide +kernel
theorem dMO_wish_41 : decode cMO_wish 41 = .ok (.iload 4, 2) := by decide +kernel
theorem dMO_wish_43 : decode cMO_wish 43 = .ok (.if_icmp .gt 31, 3) := by decide +kernel
theorem dMO_wish_46 : decode cMO_wish 46 = .ok (.aload_n 0, 1) := by decide +kernel
theorem dMO_wish_47 : decode cMO_wish 47 = .ok (.getfield 26, 3) := by decide +kernel
theorem dMO_wish_50 : decode cMO_wish 50 = .ok (.iload 6, 2) := by decide +kernel
theorem dMO_wish_52 : decode cMO_wish 52 = .ok (.iconst 2, 1) := by decide +kernel
theorem dMO_wish_53 : decode cMO_wish 53 = .ok (.isub, 1) := by decide +kernel
theorem dMO_wish_54 : decode cMO_wish 54 = .ok (.iaload, 1) := by decide +kernel
theorem dMO_wish_55 : decode cMO_wish 55 = .ok (.iload 4, 2) := by decide +kernel
theorem dMO_wish_57 : decode cMO_wish 57 = .ok (.if_icmp .ne 57, 3) := by decide +kernel
theorem dMO_wish_60 : decode cMO_wish 60 = .ok (.aload_n 0, 1) := by decide +kernel
theorem dMO_wish_61 : decode cMO_wish 61 = .ok (.getfield 26, 3) := by decide +kernel
theorem dMO_wish_64 : decode cMO_wish 64 = .ok (.iload 6, 2) := by decide +kernel
theorem dMO_wish_66 : decode cMO_wish 66 = .ok (.iconst 1, 1) := by decide +kernel
theorem dMO_wish_67 : decode cMO_wish 67 = .ok (.isub, 1) := by decide +kernel
theorem dMO_wish_68 : decode cMO_wish 68 = .ok (.iaload, 1) := by decide +kernel
theorem dMO_wish_69 : decode cMO_wish 69 = .ok (.iload 5, 2) := by decide +kernel
theorem dMO_wish_71 : decode cMO_wish 71 = .ok (.if_icmp .le 43, 3) := by decide +kernel
theorem dMO_wish_74 : decode cMO_wish 74 = .ok (.aload_n 0, 1) := by decide +kernel
theorem dMO_wish_75 : decode cMO_wish 75 = .ok (.getfield 26, 3) := by decide +kernel
theorem dMO_wish_78 : decode cMO_wish 78 = .ok (.iload 6, 2) := by decide +kernel
theorem dMO_wish_80 : decode cMO_wish 80 = .ok (.aload_n 0, 1) := by decide +kernel
theorem dMO_wish_81 : decode cMO_wish 81 = .ok (.getfield 26, 3) := by decide +kernel
theorem dMO_wish_84 : decode cMO_wish 84 = .ok (.iload 6, 2) := by decide +kernel
theorem dMO_wish_86 : decode cMO_wish 86 = .ok (.iconst 2, 1) := by decide +kernel
theorem dMO_wish_87 : decode cMO_wish 87 = .ok (.isub, 1) := by decide +kernel
theorem dMO_wish_88 : decode cMO_wish 88 = .ok (.iaload, 1) := by decide +kernel
theorem dMO_wish_89 : decode cMO_wish 89 = .ok (.iastore, 1) := by decide +kernel
theorem dMO_wish_90 : decode cMO_wish 90 = .ok (.aload_n 0, 1) := by decide +kernel
theorem dMO_wish_91 : decode cMO_wish 91 = .ok (.getfield 26, 3) := by decide +kernel
theorem dMO_wish_94 : decode cMO_wish 94 = .ok (.iload 6, 2) := by decide +kernel
theorem dMO_wish_96 : decode cMO_wish 96 = .ok (.iconst 1, 1) := by decide +kernel
theorem dMO_wish_97 : decode cMO_wish 97 = .ok (.iadd, 1) := by decide +kernel
theorem dMO_wish_98 : decode cMO_wish 98 = .ok (.aload_n 0, 1) := by decide +kernel
theorem dMO_wish_99 : decode cMO_wish 99 = .ok (.getfield 26, 3) := by decide +kernel
theorem dMO_wish_102 : decode cMO_wish 102 = .ok (.iload 6, 2) := by decide +kernel
theorem dMO_wish_104 : decode cMO_wish 104 = .ok (.iconst 1, 1) := by decide +kernel
theorem dMO_wish_105 : decode cMO_wish 105 = .ok (.isub, 1) := by decide +kernel
theorem dMO_wish_106 : decode cMO_wish 106 = .ok (.iaload, 1) := by decide +kernel
theorem dMO_wish_107 : decode cMO_wish 107 = .ok (.iastore, 1) := by decide +kernel
theorem dMO_wish_108 : decode cMO_wish 108 = .ok (.iinc 6 (-2), 3) := by decide +kernel
theorem dMO_wish_111 : decode cMO_wish 111 = .ok (.goto (-84), 3) := by decide +kernel
theorem dMO_wish_114 : decode cMO_wish 114 = .ok (.aload_n 0, 1) := by decide +kernel
theorem dMO_wish_115 : decode cMO_wish 115 = .ok (.getfield 26, 3) := by decide +kernel
theorem dMO_wish_118 : decode cMO_wish 118 = .ok (.iload 6, 2) := by decide +kernel
theorem dMO_wish_120 : decode cMO_wish 120 = .ok (.iload 4, 2) := by decide +kernel
theorem dMO_wish_122 : decode cMO_wish 122 = .ok (.iastore, 1) := by decide +kernel
theorem dMO_wish_123 : decode cMO_wish 123 = .ok (.aload_n 0, 1) := by decide +kernel
theorem dMO_wish_124 : decode cMO_wish 124 = .ok (.getfield 26, 3) := by decide +kernel
theorem dMO_wish_127 : decode cMO_wish 127 = .ok (.iload 6, 2) := by decide +kernel
theorem dMO_wish_129 : decode cMO_wish 129 = .ok (.iconst 1, 1) := by decide +kernel
theorem dMO_wish_130 : decode cMO_wish 130 = .ok (.iadd, 1) := by decide +kernel
theorem dMO_wish_131 : decode cMO_wish 131 = .ok (.iload 5, 2) := by decide +kernel
theorem dMO_wish_133 : decode cMO_wish 133 = .ok (.iastore, 1) := by decide +kernel
theorem dMO_wish_134 : decode cMO_wish 134 = .ok (.return_, 1) := by decide +kernel
theorem dMO_turn_0 : decode cMO_turn 0 = .ok (.aload_n 0, 1) := by decide +kernel
theorem dMO_turn_1 : decode cMO_turn 1 = .ok (.iconst 0, 1) := by decide +kernel
theorem dMO_turn_2 : decode cMO_turn 2 = .ok (.putfield 54, 3) := by decide +kernel
theorem dMO_turn_5 : decode cMO_turn 5 = .ok (.aload_n 0, 1) := by decide +kernel
theorem dMO_turn_6 : decode cMO_turn 6 = .ok (.aload_n 0, 1) := by decide +kernel
theorem dMO_turn_7 : decode cMO_turn 7 = .ok (.getfield 13, 3) := by decide +kernel
theorem dMO_turn_10 : decode cMO_turn 10 = .ok (.iconst 3, 1) := by decide +kernel
theorem dMO_turn_11 : decode cMO_turn 11 = .ok (.aload_n 0, 1) := by decide +kernel
theorem dMO_turn_12 : decode cMO_turn 12 = .ok (.getfield 23, 3) := by decide +kernel
theorem dMO_turn_15 : decode cMO_turn 15 = .ok (.invokevirtual 107, 3) := by decide +kernel
theorem dMO_turn_18 : decode cMO_turn 18 = .ok (.istore_n 1, 1) := by decide +kernel
theorem dMO_turn_19 : decode cMO_turn 19 = .ok (.iconst 0, 1) := by decide +kernel
theorem dMO_turn_20 : decode cMO_turn 20 = .ok (.istore_n 2, 1) := by decide +kernel
theorem dMO_turn_21 : decode cMO_turn 21 = .ok (.iload_n 2, 1) := by decide +kernel
theorem dMO_turn_22 : decode cMO_turn 22 = .ok (.iload_n 1, 1) := by decide +kernel
theorem dMO_turn_23 : decode cMO_turn 23 = .ok (.if_icmp .ge 46, 3) := by decide +kernel
theorem dMO_turn_26 : decode cMO_turn 26 = .ok (.aload_n 0, 1) := by decide +kernel
theorem dMO_turn_27 : decode cMO_turn 27 = .ok (.aload_n 0, 1) := by decide +kernel
theorem dMO_turn_28 : decode cMO_turn 28 = .ok (.getfield 23, 3) := by decide +kernel
theorem dMO_turn_31 : decode cMO_turn 31 = .ok (.iload_n 2, 1) := by decide +kernel
theorem dMO_turn_32 : decode cMO_turn 32 = .ok (.iaload, 1) := by decide +kernel
theorem dMO_turn_33 : decode cMO_turn 33 = .ok (.iconst 1, 1) := by decide +kernel
theorem dMO_turn_34 : decode cMO_turn 34 = .ok (.iadd, 1) := by decide +kernel
theorem dMO_turn_35 : decode cMO_turn 35 = .ok (.aload_n 0, 1) := by decide +kernel
theorem dMO_turn_36 : decode cMO_turn 36 = .ok (.getfield 7, 3) := by decide +kernel
theorem dMO_turn_39 : decode cMO_turn 39 = .ok (.iconst 2, 1) := by decide +kernel
theorem dMO_turn_40 : decode cMO_turn 40 = .ok (.iadd, 1) := by decide +kernel
theorem dMO_turn_41 : decode cMO_turn 41 = .ok (.irem, 1) := by decide +kernel
theorem dMO_turn_42 : decode cMO_turn 42 = .ok (.aload_n 0, 1) := by decide +kernel
theorem dMO_turn_43 : decode cMO_turn 43 = .ok (.getfield 23, 3) := by decide +kernel
theorem dMO_turn_46 : decode cMO_turn 46 = .ok (.iload_n 2, 1) := by decide +kernel
theorem dMO_turn_47 : decode cMO_turn 47 = .ok (.iconst 1, 1) := by decide +kernel
theorem dMO_turn_48 : decode cMO_turn 48 = .ok (.iadd, 1) := by decide +kernel
theorem dMO_turn_49 : decode cMO_turn 49 = .ok (.iaload, 1) := by decide +kernel
theorem dMO_turn_50 : decode cMO_turn 50 = .ok (.iconst 1, 1) := by decide +kernel
theorem dMO_turn_51 : decode cMO_turn 51 = .ok (.iadd, 1) := by decide +kernel
theorem dMO_turn_52 : decode cMO_turn 52 = .ok (.aload_n 0, 1) := by decide +kernel
theorem dMO_turn_53 : decode cMO_turn 53 = .ok (.getfield 7, 3) := by decide +kernel
theorem dMO_turn_56 : decode cMO_turn 56 = .ok (.iconst 2, 1) := by decide +kernel
theorem dMO_turn_57 : decode cMO_turn 57 = .ok (.iadd, 1) := by decide +kernel
theorem dMO_turn_58 : decode cMO_turn 58 = .ok (.irem, 1) := by decide +kernel
theorem dMO_turn_59 : decode cMO_turn 59 = .ok (.iload_n 2, 1) := by decide +kernel
theorem dMO_turn_60 : decode cMO_turn 60 = .ok (.invokevirtual 115, 3) := by decide +kernel
theorem dMO_turn_63 : decode cMO_turn 63 = .ok (.iinc 2 2, 3) := by decide +kernel
theorem dMO_turn_66 : decode cMO_turn 66 = .ok (.goto (-45), 3) := by decide +kernel
theorem dMO_turn_69 : decode cMO_turn 69 = .ok (.aload_n 0, 1) := by decide +kernel
theorem dMO_turn_70 : decode cMO_turn 70 = .ok (.iconst 3, 1) := by decide +kernel
theorem dMO_turn_71 : decode cMO_turn 71 = .ok (.aload_n 0, 1) := by decide +kernel
theorem dMO_turn_72 : decode cMO_turn 72 = .ok (.getfield 26, 3) := by decide +kernel
theorem dMO_turn_75 : decode cMO_turn 75 = .ok (.invokevirtual 111, 3) := by decide +kernel
theorem dMO_turn_78 : decode cMO_turn 78 = .ok (.ireturn, 1) := by decide +kernel
theorem dMO_complement_0 : decode cMO_complement 0 = .ok (.aload_n 0, 1) := by decide +kernel
theorem dMO_complement_1 : decode cMO_complement 1 = .ok (.iconst 0, 1) := by decide +kernel
theorem dMO_complement_2 : decode cMO_complement 2 = .ok (.putfield 54, 3) := by decide +kernel
theorem dMO_complement_5 : decode cMO_complement 5 = .ok (.aload_n 0, 1) := by decide +kernel
theorem dMO_complement_6 : decode cMO_complement 6 = .ok (.aload_n 0, 1) := by decide +kernel
theorem dMO_complement_7 : decode cMO_complement 7 = .ok (.getfield 13, 3) := by decide +kernel
theorem dMO_complement_10 : decode cMO_complement 10 = .ok (.iconst 4, 1) := by decide +kernel
theorem dMO_complement_11 : decode cMO_complement 11 = .ok (.aload_n 0, 1) := by decide +kernel
theorem dMO_complement_12 : decode cMO_complement 12 = .ok (.getfield 23, 3) := by decide +kernel
theorem dMO_complement_15 : decode cMO_complement 15 = .ok (.invokevirtual 107, 3) := by decide +kernel
theorem dMO_complement_18 : decode cMO_complement 18 = .ok (.pop, 1) := by decide +kernel
theorem dMO_complement_19 : decode cMO_complement 19 = .ok (.iconst 0, 1) := by decide +kernel
theorem dMO_complement_20 : decode cMO_complement 20 = .ok (.istore_n 1, 1) := by decide +kernel
theorem dMO_complement_21 : decode cMO_complement 21 = .ok (.iload_n 1, 1) := by decide +kernel
theorem dMO_complement_22 : decode cMO_complement 22 = .ok (.aload_n 0, 1) := by decide +kernel
theorem dMO_complement_23 : decode cMO_complement 23 = .ok (.getfield 7, 3) := by decide +kernel
theorem dMO_complement_26 : decode cMO_complement 26 = .ok (.if_icmp .ge 89, 3) := by decide +kernel
theorem dMO_complement_29 : decode cMO_complement 29 = .ok (.iconst (-1), 1) := by decide +kernel
theorem dMO_complement_30 : decode cMO_complement 30 = .ok (.istore_n 2, 1) := by decide +kernel
theorem dMO_complement_31 : decode cMO_complement 31 = .ok (.aload_n 0, 1) := by decide +kernel
theorem dMO_complement_32 : decode cMO_complement 32 = .ok (.getfield 7, 3) := by decide +kernel
theorem dMO_complement_35 : decode cMO_complement 35 = .ok (.iconst 1, 1) := by decide +kernel
theorem dMO_complement_36 : decode cMO_complement 36 = .ok (.isub, 1) := by decide +kernel
theorem dMO_complement_37 : decode cMO_complement 37 = .ok (.istore_n 3, 1) := by decide +kernel
theorem dMO_complement_38 : decode cMO_complement 38 = .ok (.iload_n 3, 1) := by decide +kernel
theorem dMO_complement_39 : decode cMO_complement 39 = .ok (.iload_n 1, 1) := by decide +kernel
theorem dMO_complement_40 : decode cMO_complement 40 = .ok (.if_icmp .le 30, 3) := by decide +kernel
theorem dMO_complement_43 : decode cMO_complement 43 = .ok (.aload_n 0, 1) := by decide +kernel
theorem dMO_complement_44 : decode cMO_complement 44 = .ok (.getfield 23, 3) := by decide +kernel
theorem dMO_complement_47 : decode cMO_complement 47 = .ok (.iload_n 3, 1) := by decide +kernel
theorem dMO_complement_48 : decode cMO_complement 48 = .ok (.iaload, 1) := by decide +kernel
theorem dMO_complement_49 : decode cMO_complement 49 = .ok (.aload_n 0, 1) := by decide +kernel
theorem dMO_complement_50 : decode cMO_complement 50 = .ok (.getfield 23, 3) := by decide +kernel
theorem dMO_complement_53 : decode cMO_complement 53 = .ok (.iload_n 1, 1) := by decide +kernel
theorem dMO_complement_54 : decode cMO_complement 54 = .ok (.iaload, 1) := by decide +kernel
theorem dMO_complement_55 : decode cMO_complement 55 = .ok (.if_icmp .ne 7, 3) := by decide +kernel
theorem dMO_complement_58 : decode cMO_complement 58 = .ok (.iload_n 3, 1) := by decide +kernel
theorem dMO_complement_59 : decode cMO_complement 59 = .ok (.goto 4, 3) := by decide +kernel
theorem dMO_complement_62 : decode cMO_complement 62 = .ok (.iload_n 2, 1) := by decide +kernel
theorem dMO_complement_63 : decode cMO_complement 63 = .ok (.istore_n 2, 1) := by decide +kernel
theorem dMO_complement_64 : decode cMO_complement 64 = .ok (.iinc 3 (-1), 3) := by decide +kernel
theorem dMO_complement_67 : decode cMO_complement 67 = .ok (.goto (-29), 3) := by decide +kernel
theorem dMO_complement_70 : decode cMO_complement 70 = .ok (.iload_n 2, 1) := by decide +kernel
theorem dMO_complement_71 : decode cMO_complement 71 = .ok (.ifCond .ge 14, 3) := by decide +kernel
theorem dMO_complement_74 : decode cMO_complement 74 = .ok (.aload_n 0, 1) := by decide +kernel
theorem dMO_complement_75 : decode cMO_complement 75 = .ok (.getfield 23, 3) := by decide +kernel
theorem dMO_complement_78 : decode cMO_complement 78 = .ok (.iload_n 1, 1) := by decide +kernel
theorem dMO_complement_79 : decode cMO_complement 79 = .ok (.iaload, 1) := by decide +kernel
theorem dMO_complement_80 : decode cMO_complement 80 = .ok (.iconst 1, 1) := by decide +kernel
theorem dMO_complement_81 : decode cMO_complement 81 = .ok (.isub, 1) := by decide +kernel
theorem dMO_complement_82 : decode cMO_complement 82 = .ok (.goto 4, 3) := by decide +kernel
theorem dMO_complement_85 : decode cMO_complement 85 = .ok (.iload_n 2, 1) := by decide +kernel
theorem dMO_complement_86 : decode cMO_complement 86 = .ok (.istore_n 2, 1) := by decide +kernel
theorem dMO_complement_87 : decode cMO_complement 87 = .ok (.aload_n 0, 1) := by decide +kernel
theorem dMO_complement_88 : decode cMO_complement 88 = .ok (.getfield 44, 3) := by decide +kernel
theorem dMO_complement_91 : decode cMO_complement 91 = .ok (.iload_n 2, 1) := by decide +kernel
theorem dMO_complement_92 : decode cMO_complement 92 = .ok (.ifCond .ne 12, 3) := by decide +kernel
theorem dMO_complement_95 : decode cMO_complement 95 = .ok (.aload_n 0, 1) := by decide +kernel
theorem dMO_complement_96 : decode cMO_complement 96 = .ok (.getfield 7, 3) := by decide +kernel
theorem dMO_complement_99 : decode cMO_complement 99 = .ok (.iconst 1, 1) := by decide +kernel
theorem dMO_complement_100 : decode cMO_complement 100 = .ok (.isub, 1) := by decide +kernel
theorem dMO_complement_101 : decode cMO_complement 101 = .ok (.goto 6, 3) := by decide +kernel
theorem dMO_complement_104 : decode cMO_complement 104 = .ok (.iload_n 2, 1) := by decide +kernel
theorem dMO_complement_105 : decode cMO_complement 105 = .ok (.iconst 1, 1) := by decide +kernel
theorem dMO_complement_106 : decode cMO_complement 106 = .ok (.isub, 1) := by decide +kernel
theorem dMO_complement_107 : decode cMO_complement 107 = .ok (.iload_n 1, 1) := by decide +kernel
theorem dMO_complement_108 : decode cMO_complement 108 = .ok (.iastore, 1) := by decide +kernel
theorem dMO_complement_109 : decode cMO_complement 109 = .ok (.iinc 1 1, 3) := by decide +kernel
theorem dMO_complement_112 : decode cMO_complement 112 = .ok (.goto (-91), 3) := by decide +kernel
theorem dMO_complement_115 : decode cMO_complement 115 = .ok (.iconst 0, 1) := by decide +kernel
theorem dMO_complement_116 : decode cMO_complement 116 = .ok (.istore_n 1, 1) := by decide +kernel
theorem dMO_complement_117 : decode cMO_complement 117 = .ok (.iload_n 1, 1) := by decide +kernel
theorem dMO_complement_118 : decode cMO_complement 118 = .ok (.aload_n 0, 1) := by decide +kernel
theorem dMO_complement_119 : decode cMO_complement 119 = .ok (.getfield 7, 3) := by decide +kernel
theorem dMO_complement_122 : decode cMO_complement 122 = .ok (.if_icmp .ge 53, 3) := by decide +kernel
theorem dMO_complement_125 : decode cMO_complement 125 = .ok (.iload_n 1, 1) := by decide +kernel
theorem dMO_complement_126 : decode cMO_complement 126 = .ok (.istore_n 2, 1) := by decide +kernel
theorem dMO_complement_127 : decode cMO_complement 127 = .ok (.aload_n 0, 1) := by decide +kernel
theorem dMO_complement_128 : decode cMO_complement 128 = .ok (.getfield 44, 3) := by decide +kernel
theorem dMO_complement_131 : decode cMO_complement 131 = .ok (.iload_n 1, 1) := by decide +kernel
theorem dMO_complement_132 : decode cMO_complement 132 = .ok (.iaload, 1) := by decide +kernel
theorem dMO_complement_133 : decode cMO_complement 133 = .ok (.istore_n 3, 1) := by decide +kernel
theorem dMO_complement_134 : decode cMO_complement 134 = .ok (.iload_n 3, 1) := by decide +kernel
theorem dMO_complement_135 : decode cMO_complement 135 = .ok (.iload_n 1, 1) := by decide +kernel
theorem dMO_complement_136 : decode cMO_complement 136 = .ok (.if_icmp .eq 24, 3) := by decide +kernel
theorem dMO_complement_139 : decode cMO_complement 139 = .ok (.iload_n 3, 1) := by decide +kernel
theorem dMO_complement_140 : decode cMO_complement 140 = .ok (.iload_n 2, 1) := by decide +kernel
theorem dMO_complement_141 : decode cMO_complement 141 = .ok (.if_icmp .ge 7, 3) := by decide +kernel
theorem dMO_complement_144 : decode cMO_complement 144 = .ok (.iload_n 3, 1) := by decide +kernel
theorem dMO_complement_145 : decode cMO_complement 145 = .ok (.goto 4, 3) := by decide +kernel
theorem dMO_complement_148 : decode cMO_complement 148 = .ok (.iload_n 2, 1) := by decide +kernel
theorem dMO_complement_149 : decode cMO_complement 149 = .ok (.istore_n 2, 1) := by decide +kernel
theorem dMO_complement_150 : decode cMO_complement 150 = .ok (.aload_n 0, 1) := by decide +kernel
theorem dMO_complement_151 : decode cMO_complement 151 = .ok (.getfield 44, 3) := by decide +kernel
theorem dMO_complement_154 : decode cMO_complement 154 = .ok (.iload_n 3, 1) := by decide +kernel
theorem dMO_complement_155 : decode cMO_complement 155 = .ok (.iaload, 1) := by decide +kernel
theorem dMO_complement_156 : decode cMO_complement 156 = .ok (.istore_n 3, 1) := by decide +kernel
theorem dMO_complement_157 : decode cMO_complement 157 = .ok (.goto (-23), 3) := by decide +kernel
theorem dMO_complement_160 : decode cMO_complement 160 = .ok (.aload_n 0, 1) := by decide +kernel
theorem dMO_complement_161 : decode cMO_complement 161 = .ok (.getfield 26, 3) := by decide +kernel
theorem dMO_complement_164 : decode cMO_complement 164 = .ok (.iload_n 1, 1) := by decide +kernel
theorem dMO_complement_165 : decode cMO_complement 165 = .ok (.iload_n 2, 1) := by decide +kernel
theorem dMO_complement_166 : decode cMO_complement 166 = .ok (.iconst 1, 1) := by decide +kernel
theorem dMO_complement_167 : decode cMO_complement 167 = .ok (.iadd, 1) := by decide +kernel
theorem dMO_complement_168 : decode cMO_complement 168 = .ok (.iastore, 1) := by decide +kernel
theorem dMO_complement_169 : decode cMO_complement 169 = .ok (.iinc 1 1, 3) := by decide +kernel
theorem dMO_complement_172 : decode cMO_complement 172 = .ok (.goto (-55), 3) := by decide +kernel
theorem dMO_complement_175 : decode cMO_complement 175 = .ok (.aload_n 0, 1) := by decide +kernel
theorem dMO_complement_176 : decode cMO_complement 176 = .ok (.iconst 4, 1) := by decide +kernel
theorem dMO_complement_177 : decode cMO_complement 177 = .ok (.aload_n 0, 1) := by decide +kernel
theorem dMO_complement_178 : decode cMO_complement 178 = .ok (.getfield 26, 3) := by decide +kernel
theorem dMO_complement_181 : decode cMO_complement 181 = .ok (.invokevirtual 111, 3) := by decide +kernel
theorem dMO_complement_184 : decode cMO_complement 184 = .ok (.ireturn, 1) := by decide +kernel
theorem dMO_joined_0 : decode cMO_joined 0 = .ok (.iload_n 1, 1) := by decide +kernel
theorem dMO_joined_1 : decode cMO_joined 1 = .ok (.iload_n 2, 1) := by decide +kernel
theorem dMO_joined_2 : decode cMO_joined 2 = .ok (.if_icmp .ge 7, 3) := by decide +kernel
theorem dMO_joined_5 : decode cMO_joined 5 = .ok (.iload_n 1, 1) := by decide +kernel
theorem dMO_joined_6 : decode cMO_joined 6 = .ok (.goto 4, 3) := by decide +kernel
theorem dMO_joined_9 : decode cMO_joined 9 = .ok (.iload_n 2, 1) := by decide +kernel
theorem dMO_joined_10 : decode cMO_joined 10 = .ok (.istore 4, 2) := by decide +kernel
theorem dMO_joined_12 : decode cMO_joined 12 = .ok (.iload_n 1, 1) := by decide +kernel
theorem dMO_joined_13 : decode cMO_joined 13 = .ok (.iload_n 2, 1) := by decide +kernel
theorem dMO_joined_14 : decode cMO_joined 14 = .ok (.if_icmp .ge 7, 3) := by decide +kernel
theorem dMO_joined_17 : decode cMO_joined 17 = .ok (.iload_n 2, 1) := by decide +kernel
theorem dMO_joined_18 : decode cMO_joined 18 = .ok (.goto 4, 3) := by decide +kernel
theorem dMO_joined_21 : decode cMO_joined 21 = .ok (.iload_n 1, 1) := by decide +kernel
theorem dMO_joined_22 : decode cMO_joined 22 = .ok (.istore 5, 2) := by decide +kernel
theorem dMO_joined_24 : decode cMO_joined 24 = .ok (.iload 5, 2) := by decide +kernel
theorem dMO_joined_26 : decode cMO_joined 26 = .ok (.iload 4, 2) := by decide +kernel
theorem dMO_joined_28 : decode cMO_joined 28 = .ok (.iconst 1, 1) := by decide +kernel
theorem dMO_joined_29 : decode cMO_joined 29 = .ok (.iadd, 1) := by decide +kernel
theorem dMO_joined_30 : decode cMO_joined 30 = .ok (.if_icmp .eq 19, 3) := by decide +kernel
theorem dMO_joined_33 : decode cMO_joined 33 = .ok (.iload 4, 2) := by decide +kernel
theorem dMO_joined_35 : decode cMO_joined 35 = .ok (.ifCond .ne 18, 3) := by decide +kernel
theorem dMO_joined_38 : decode cMO_joined 38 = .ok (.iload 5, 2) := by decide +kernel
theorem dMO_joined_40 : decode cMO_joined 40 = .ok (.aload_n 0, 1) := by decide +kernel
theorem dMO_joined_41 : decode cMO_joined 41 = .ok (.getfield 7, 3) := by decide +kernel
theorem dMO_joined_44 : decode cMO_joined 44 = .ok (.iconst 1, 1) := by decide +kernel
theorem dMO_joined_45 : decode cMO_joined 45 = .ok (.iadd, 1) := by decide +kernel
theorem dMO_joined_46 : decode cMO_joined 46 = .ok (.if_icmp .ne 7, 3) := by decide +kernel
theorem dMO_joined_49 : decode cMO_joined 49 = .ok (.iconst 1, 1) := by decide +kernel
theorem dMO_joined_50 : decode cMO_joined 50 = .ok (.goto 4, 3) := by decide +kernel
theorem dMO_joined_53 : decode cMO_joined 53 = .ok (.iconst 0, 1) := by decide +kernel
theorem dMO_joined_54 : decode cMO_joined 54 = .ok (.istore 6, 2) := by decide +kernel
theorem dMO_joined_56 : decode cMO_joined 56 = .ok (.iconst 0, 1) := by decide +kernel
theorem dMO_joined_57 : decode cMO_joined 57 = .ok (.istore 7, 2) := by decide +kernel
theorem dMO_joined_59 : decode cMO_joined 59 = .ok (.iload 7, 2) := by decide +kernel
theorem dMO_joined_61 : decode cMO_joined 61 = .ok (.iload_n 3, 1) := by decide +kernel
theorem dMO_joined_62 : decode cMO_joined 62 = .ok (.if_icmp .ge 47, 3) := by decide +kernel
theorem dMO_joined_65 : decode cMO_joined 65 = .ok (.iload 6, 2) := by decide +kernel
theorem dMO_joined_67 : decode cMO_joined 67 = .ok (.ifCond .ne 29, 3) := by decide +kernel
theorem dMO_joined_70 : decode cMO_joined 70 = .ok (.aload_n 0, 1) := by decide +kernel
theorem dMO_joined_71 : decode cMO_joined 71 = .ok (.getfield 23, 3) := by decide +kernel
theorem dMO_joined_74 : decode cMO_joined 74 = .ok (.iload 7, 2) := by decide +kernel
theorem dMO_joined_76 : decode cMO_joined 76 = .ok (.iaload, 1) := by decide +kernel
theorem dMO_joined_77 : decode cMO_joined 77 = .ok (.iload 4, 2) := by decide +kernel
theorem dMO_joined_79 : decode cMO_joined 79 = .ok (.if_icmp .ne 21, 3) := by decide +kernel
theorem dMO_joined_82 : decode cMO_joined 82 = .ok (.aload_n 0, 1) := by decide +kernel
theorem dMO_joined_83 : decode cMO_joined 83 = .ok (.getfield 23, 3) := by decide +kernel
theorem dMO_joined_86 : decode cMO_joined 86 = .ok (.iload 7, 2) := by decide +kernel
theorem dMO_joined_88 : decode cMO_joined 88 = .ok (.iconst 1, 1) := by decide +kernel
theorem dMO_joined_89 : decode cMO_joined 89 = .ok (.iadd, 1) := by decide +kernel
theorem dMO_joined_90 : decode cMO_joined 90 = .ok (.iaload, 1) := by decide +kernel
theorem dMO_joined_91 : decode cMO_joined 91 = .ok (.iload 5, 2) := by decide +kernel
theorem dMO_joined_93 : decode cMO_joined 93 = .ok (.if_icmp .ne 7, 3) := by decide +kernel
theorem dMO_joined_96 : decode cMO_joined 96 = .ok (.iconst 1, 1) := by decide +kernel
theorem dMO_joined_97 : decode cMO_joined 97 = .ok (.goto 4, 3) := by decide +kernel
theorem dMO_joined_100 : decode cMO_joined 100 = .ok (.iconst 0, 1) := by decide +kernel
theorem dMO_joined_101 : decode cMO_joined 101 = .ok (.istore 6, 2) := by decide +kernel
theorem dMO_joined_103 : decode cMO_joined 103 = .ok (.iinc 7 2, 3) := by decide +kernel
theorem dMO_joined_106 : decode cMO_joined 106 = .ok (.goto (-47), 3) := by decide +kernel
theorem dMO_joined_109 : decode cMO_joined 109 = .ok (.iload 6, 2) := by decide +kernel
theorem dMO_joined_111 : decode cMO_joined 111 = .ok (.ireturn, 1) := by decide +kernel
theorem dMO_corner_0 : decode cMO_corner 0 = .ok (.iconst (-1), 1) := by decide +kernel
theorem dMO_corner_1 : decode cMO_corner 1 = .ok (.istore 5, 2) := by decide +kernel
theorem dMO_corner_3 : decode cMO_corner 3 = .ok (.iconst 0, 1) := by decide +kernel
theorem dMO_corner_4 : decode cMO_corner 4 = .ok (.istore 6, 2) := by decide +kernel
theorem dMO_corner_6 : decode cMO_corner 6 = .ok (.iload 6, 2) := by decide +kernel
theorem dMO_corner_8 : decode cMO_corner 8 = .ok (.aload_n 0, 1) := by decide +kernel
theorem dMO_corner_9 : decode cMO_corner 9 = .ok (.getfield 7, 3) := by decide +kernel
theorem dMO_corner_12 : decode cMO_corner 12 = .ok (.iconst 1, 1) := by decide +kernel
theorem dMO_corner_13 : decode cMO_corner 13 = .ok (.iadd, 1) := by decide +kernel
theorem dMO_corner_14 : decode cMO_corner 14 = .ok (.if_icmp .gt 87, 3) := by decide +kernel
theorem dMO_corner_17 : decode cMO_corner 17 = .ok (.iload 6, 2) := by decide +kernel
theorem dMO_corner_19 : decode cMO_corner 19 = .ok (.iload_n 1, 1) := by decide +kernel
theorem dMO_corner_20 : decode cMO_corner 20 = .ok (.if_icmp .eq 34, 3) := by decide +kernel
theorem dMO_corner_23 : decode cMO_corner 23 = .ok (.iload 6, 2) := by decide +kernel
theorem dMO_corner_25 : decode cMO_corner 25 = .ok (.iload_n 2, 1) := by decide +kernel
theorem dMO_corner_26 : decode cMO_corner 26 = .ok (.if_icmp .eq 28, 3) := by decide +kernel
theorem dMO_corner_29 : decode cMO_corner 29 = .ok (.iload 6, 2) := by decide +kernel
theorem dMO_corner_31 : decode cMO_corner 31 = .ok (.iload_n 1, 1) := by decide +kernel
theorem dMO_corner_32 : decode cMO_corner 32 = .ok (.if_icmp .le 13, 3) := by decide +kernel
theorem dMO_corner_35 : decode cMO_corner 35 = .ok (.iload 6, 2) := by decide +kernel
theorem dMO_corner_37 : decode cMO_corner 37 = .ok (.iload_n 2, 1) := by decide +kernel
theorem dMO_corner_38 : decode cMO_corner 38 = .ok (.if_icmp .ge 7, 3) := by decide +kernel
theorem dMO_corner_41 : decode cMO_corner 41 = .ok (.iconst 1, 1) := by decide +kernel
theorem dMO_corner_42 : decode cMO_corner 42 = .ok (.goto 4, 3) := by decide +kernel
theorem dMO_corner_45 : decode cMO_corner 45 = .ok (.iconst 0, 1) := by decide +kernel
theorem dMO_corner_46 : decode cMO_corner 46 = .ok (.iload_n 3, 1) := by decide +kernel
theorem dMO_corner_47 : decode cMO_corner 47 = .ok (.if_icmp .ne 7, 3) := by decide +kernel
theorem dMO_corner_50 : decode cMO_corner 50 = .ok (.iconst 1, 1) := by decide +kernel
theorem dMO_corner_51 : decode cMO_corner 51 = .ok (.goto 4, 3) := by decide +kernel
theorem dMO_corner_54 : decode cMO_corner 54 = .ok (.iconst 0, 1) := by decide +kernel
theorem dMO_corner_55 : decode cMO_corner 55 = .ok (.istore 7, 2) := by decide +kernel
theorem dMO_corner_57 : decode cMO_corner 57 = .ok (.iload 7, 2) := by decide +kernel
theorem dMO_corner_59 : decode cMO_corner 59 = .ok (.ifCond .eq 32, 3) := by decide +kernel
theorem dMO_corner_62 : decode cMO_corner 62 = .ok (.aload_n 0, 1) := by decide +kernel
theorem dMO_corner_63 : decode cMO_corner 63 = .ok (.iload 6, 2) := by decide +kernel
theorem dMO_corner_65 : decode cMO_corner 65 = .ok (.iload_n 1, 1) := by decide +kernel
theorem dMO_corner_66 : decode cMO_corner 66 = .ok (.iload 4, 2) := by decide +kernel
theorem dMO_corner_68 : decode cMO_corner 68 = .ok (.invokevirtual 119, 3) := by decide +kernel
theorem dMO_corner_71 : decode cMO_corner 71 = .ok (.ifCond .eq 20, 3) := by decide +kernel
theorem dMO_corner_74 : decode cMO_corner 74 = .ok (.aload_n 0, 1) := by decide +kernel
theorem dMO_corner_75 : decode cMO_corner 75 = .ok (.iload 6, 2) := by decide +kernel
theorem dMO_corner_77 : decode cMO_corner 77 = .ok (.iload_n 2, 1) := by decide +kernel
theorem dMO_corner_78 : decode cMO_corner 78 = .ok (.iload 4, 2) := by decide +kernel
theorem dMO_corner_80 : decode cMO_corner 80 = .ok (.invokevirtual 119, 3) := by decide +kernel
theorem dMO_corner_83 : decode cMO_corner 83 = .ok (.ifCond .eq 8, 3) := by decide +kernel
theorem dMO_corner_86 : decode cMO_corner 86 = .ok (.iload 6, 2) := by decide +kernel
theorem dMO_corner_88 : decode cMO_corner 88 = .ok (.goto 5, 3) := by decide +kernel
theorem dMO_corner_91 : decode cMO_corner 91 = .ok (.iload 5, 2) := by decide +kernel
theorem dMO_corner_93 : decode cMO_corner 93 = .ok (.istore 5, 2) := by decide +kernel
theorem dMO_corner_95 : decode cMO_corner 95 = .ok (.iinc 6 1, 3) := by decide +kernel
theorem dMO_corner_98 : decode cMO_corner 98 = .ok (.goto (-92), 3) := by decide +kernel
theorem dMO_corner_101 : decode cMO_corner 101 = .ok (.iload 5, 2) := by decide +kernel
theorem dMO_corner_103 : decode cMO_corner 103 = .ok (.ireturn, 1) := by decide +kernel
theorem dMO_flip_0 : decode cMO_flip 0 = .ok (.aload_n 0, 1) := by decide +kernel
theorem dMO_flip_1 : decode cMO_flip 1 = .ok (.aload_n 0, 1) := by decide +kernel
theorem dMO_flip_2 : decode cMO_flip 2 = .ok (.getfield 13, 3) := by decide +kernel
theorem dMO_flip_5 : decode cMO_flip 5 = .ok (.iconst 3, 1) := by decide +kernel
theorem dMO_flip_6 : decode cMO_flip 6 = .ok (.aload_n 0, 1) := by decide +kernel
theorem dMO_flip_7 : decode cMO_flip 7 = .ok (.getfield 23, 3) := by decide +kernel
theorem dMO_flip_10 : decode cMO_flip 10 = .ok (.invokevirtual 107, 3) := by decide +kernel
theorem dMO_flip_13 : decode cMO_flip 13 = .ok (.istore_n 2, 1) := by decide +kernel
theorem dMO_flip_14 : decode cMO_flip 14 = .ok (.aload_n 0, 1) := by decide +kernel
theorem dMO_flip_15 : decode cMO_flip 15 = .ok (.iload_n 1, 1) := by decide +kernel
theorem dMO_flip_16 : decode cMO_flip 16 = .ok (.ifCond .lt 15, 3) := by decide +kernel
theorem dMO_flip_19 : decode cMO_flip 19 = .ok (.ldc2_w 123, 3) := by decide +kernel
theorem dMO_flip_22 : decode cMO_flip 22 = .ok (.iload_n 1, 1) := by decide +kernel
theorem dMO_flip_23 : decode cMO_flip 23 = .ok (.i2l, 1) := by decide +kernel
theorem dMO_flip_24 : decode cMO_flip 24 = .ok (.lmul, 1) := by decide +kernel
theorem dMO_flip_25 : decode cMO_flip 25 = .ok (.iload_n 2, 1) := by decide +kernel
theorem dMO_flip_26 : decode cMO_flip 26 = .ok (.i2l, 1) := by decide +kernel
theorem dMO_flip_27 : decode cMO_flip 27 = .ok (.lcmp, 1) := by decide +kernel
theorem dMO_flip_28 : decode cMO_flip 28 = .ok (.ifCond .lt 7, 3) := by decide +kernel
theorem dMO_flip_31 : decode cMO_flip 31 = .ok (.iconst 1, 1) := by decide +kernel
theorem dMO_flip_32 : decode cMO_flip 32 = .ok (.goto 4, 3) := by decide +kernel
theorem dMO_flip_35 : decode cMO_flip 35 = .ok (.iconst 0, 1) := by decide +kernel
theorem dMO_flip_36 : decode cMO_flip 36 = .ok (.putfield 54, 3) := by decide +kernel
theorem dMO_flip_39 : decode cMO_flip 39 = .ok (.aload_n 0, 1) := by decide +kernel
theorem dMO_flip_40 : decode cMO_flip 40 = .ok (.getfield 54, 3) := by decide +kernel
theorem dMO_flip_43 : decode cMO_flip 43 = .ok (.ifCond .le 5, 3) := by decide +kernel
theorem dMO_flip_46 : decode cMO_flip 46 = .ok (.iconst 0, 1) := by decide +kernel
theorem dMO_flip_47 : decode cMO_flip 47 = .ok (.ireturn, 1) := by decide +kernel
theorem dMO_flip_48 : decode cMO_flip 48 = .ok (.aload_n 0, 1) := by decide +kernel
theorem dMO_flip_49 : decode cMO_flip 49 = .ok (.getfield 23, 3) := by decide +kernel
theorem dMO_flip_52 : decode cMO_flip 52 = .ok (.iconst 2, 1) := by decide +kernel
theorem dMO_flip_53 : decode cMO_flip 53 = .ok (.iload_n 1, 1) := by decide +kernel
theorem dMO_flip_54 : decode cMO_flip 54 = .ok (.imul, 1) := by decide +kernel
theorem dMO_flip_55 : decode cMO_flip 55 = .ok (.iaload, 1) := by decide +kernel
theorem dMO_flip_56 : decode cMO_flip 56 = .ok (.istore_n 3, 1) := by decide +kernel
theorem dMO_flip_57 : decode cMO_flip 57 = .ok (.aload_n 0, 1) := by decide +kernel
theorem dMO_flip_58 : decode cMO_flip 58 = .ok (.getfield 23, 3) := by decide +kernel
theorem dMO_flip_61 : decode cMO_flip 61 = .ok (.iconst 2, 1) := by decide +kernel
theorem dMO_flip_62 : decode cMO_flip 62 = .ok (.iload_n 1, 1) := by decide +kernel
theorem dMO_flip_63 : decode cMO_flip 63 = .ok (.imul, 1) := by decide +kernel
theorem dMO_flip_64 : decode cMO_flip 64 = .ok (.iconst 1, 1) := by decide +kernel
theorem dMO_flip_65 : decode cMO_flip 65 = .ok (.iadd, 1) := by decide +kernel
theorem dMO_flip_66 : decode cMO_flip 66 = .ok (.iaload, 1) := by decide +kernel
theorem dMO_flip_67 : decode cMO_flip 67 = .ok (.istore 4, 2) := by decide +kernel
theorem dMO_flip_69 : decode cMO_flip 69 = .ok (.aload_n 0, 1) := by decide +kernel
theorem dMO_flip_70 : decode cMO_flip 70 = .ok (.iload_n 3, 1) := by decide +kernel
theorem dMO_flip_71 : decode cMO_flip 71 = .ok (.iload 4, 2) := by decide +kernel
theorem dMO_flip_73 : decode cMO_flip 73 = .ok (.iconst 1, 1) := by decide +kernel
theorem dMO_flip_74 : decode cMO_flip 74 = .ok (.iload_n 2, 1) := by decide +kernel
theorem dMO_flip_75 : decode cMO_flip 75 = .ok (.invokevirtual 125, 3) := by decide +kernel
theorem dMO_flip_78 : decode cMO_flip 78 = .ok (.istore 5, 2) := by decide +kernel
theorem dMO_flip_80 : decode cMO_flip 80 = .ok (.aload_n 0, 1) := by decide +kernel
theorem dMO_flip_81 : decode cMO_flip 81 = .ok (.iload_n 3, 1) := by decide +kernel
theorem dMO_flip_82 : decode cMO_flip 82 = .ok (.iload 4, 2) := by decide +kernel
theorem dMO_flip_84 : decode cMO_flip 84 = .ok (.iconst 0, 1) := by decide +kernel
theorem dMO_flip_85 : decode cMO_flip 85 = .ok (.iload_n 2, 1) := by decide +kernel
theorem dMO_flip_86 : decode cMO_flip 86 = .ok (.invokevirtual 125, 3) := by decide +kernel
theorem dMO_flip_89 : decode cMO_flip 89 = .ok (.istore 6, 2) := by decide +kernel
theorem dMO_flip_91 : decode cMO_flip 91 = .ok (.iconst 0, 1) := by decide +kernel
theorem dMO_flip_92 : decode cMO_flip 92 = .ok (.istore 7, 2) := by decide +kernel
theorem dMO_flip_94 : decode cMO_flip 94 = .ok (.iconst 0, 1) := by decide +kernel
theorem dMO_flip_95 : decode cMO_flip 95 = .ok (.istore 8, 2) := by decide +kernel
theorem dMO_flip_97 : decode cMO_flip 97 = .ok (.iload 8, 2) := by decide +kernel
theorem dMO_flip_99 : decode cMO_flip 99 = .ok (.iload_n 2, 1) := by decide +kernel
theorem dMO_flip_100 : decode cMO_flip 100 = .ok (.if_icmp .ge 42, 3) := by decide +kernel
theorem dMO_flip_103 : decode cMO_flip 103 = .ok (.iload 8, 2) := by decide +kernel
theorem dMO_flip_105 : decode cMO_flip 105 = .ok (.iconst 2, 1) := by decide +kernel
theorem dMO_flip_106 : decode cMO_flip 106 = .ok (.iload_n 1, 1) := by decide +kernel
theorem dMO_flip_107 : decode cMO_flip 107 = .ok (.imul, 1) := by decide +kernel
theorem dMO_flip_108 : decode cMO_flip 108 = .ok (.if_icmp .eq 28, 3) := by decide +kernel
theorem dMO_flip_111 : decode cMO_flip 111 = .ok (.aload_n 0, 1) := by decide +kernel
theorem dMO_flip_112 : decode cMO_flip 112 = .ok (.aload_n 0, 1) := by decide +kernel
theorem dMO_flip_113 : decode cMO_flip 113 = .ok (.getfield 23, 3) := by decide +kernel
theorem dMO_flip_116 : decode cMO_flip 116 = .ok (.iload 8, 2) := by decide +kernel
theorem dMO_flip_118 : decode cMO_flip 118 = .ok (.iaload, 1) := by decide +kernel
theorem dMO_flip_119 : decode cMO_flip 119 = .ok (.aload_n 0, 1) := by decide +kernel
theorem dMO_flip_120 : decode cMO_flip 120 = .ok (.getfield 23, 3) := by decide +kernel
theorem dMO_flip_123 : decode cMO_flip 123 = .ok (.iload 8, 2) := by decide +kernel
theorem dMO_flip_125 : decode cMO_flip 125 = .ok (.iconst 1, 1) := by decide +kernel
theorem dMO_flip_126 : decode cMO_flip 126 = .ok (.iadd, 1) := by decide +kernel
theorem dMO_flip_127 : decode cMO_flip 127 = .ok (.iaload, 1) := by decide +kernel
theorem dMO_flip_128 : decode cMO_flip 128 = .ok (.iload 7, 2) := by decide +kernel
theorem dMO_flip_130 : decode cMO_flip 130 = .ok (.invokevirtual 115, 3) := by decide +kernel
theorem dMO_flip_133 : decode cMO_flip 133 = .ok (.iinc 7 2, 3) := by decide +kernel
theorem dMO_flip_136 : decode cMO_flip 136 = .ok (.iinc 8 2, 3) := by decide +kernel
theorem dMO_flip_139 : decode cMO_flip 139 = .ok (.goto (-42), 3) := by decide +kernel
theorem dMO_flip_142 : decode cMO_flip 142 = .ok (.aload_n 0, 1) := by decide +kernel
theorem dMO_flip_143 : decode cMO_flip 143 = .ok (.iload 5, 2) := by decide +kernel
theorem dMO_flip_145 : decode cMO_flip 145 = .ok (.iload 6, 2) := by decide +kernel
theorem dMO_flip_147 : decode cMO_flip 147 = .ok (.iload 7, 2) := by decide +kernel
theorem dMO_flip_149 : decode cMO_flip 149 = .ok (.invokevirtual 115, 3) := by decide +kernel
theorem dMO_flip_152 : decode cMO_flip 152 = .ok (.aload_n 0, 1) := by decide +kernel
theorem dMO_flip_153 : decode cMO_flip 153 = .ok (.iconst 3, 1) := by decide +kernel
theorem dMO_flip_154 : decode cMO_flip 154 = .ok (.aload_n 0, 1) := by decide +kernel
theorem dMO_flip_155 : decode cMO_flip 155 = .ok (.getfield 26, 3) := by decide +kernel
theorem dMO_flip_158 : decode cMO_flip 158 = .ok (.invokevirtual 111, 3) := by decide +kernel
theorem dMO_flip_161 : decode cMO_flip 161 = .ok (.ireturn, 1) := by decide +kernel
theorem dMO_has_0 : decode cMO_has 0 = .ok (.iload_n 2, 1) := by decide +kernel
theorem dMO_has_1 : decode cMO_has 1 = .ok (.iload_n 3, 1) := by decide +kernel
theorem dMO_has_2 : decode cMO_has 2 = .ok (.if_icmp .ge 7, 3) := by decide +kernel
theorem dMO_has_5 : decode cMO_has 5 = .ok (.iload_n 2, 1) := by decide +kernel
theorem dMO_has_6 : decode cMO_has 6 = .ok (.goto 4, 3) := by decide +kernel
theorem dMO_has_9 : decode cMO_has 9 = .ok (.iload_n 3, 1) := by decide +kernel
theorem dMO_has_10 : decode cMO_has 10 = .ok (.istore 5, 2) := by decide +kernel
theorem dMO_has_12 : decode cMO_has 12 = .ok (.iload_n 2, 1) := by decide +kernel
theorem dMO_has_13 : decode cMO_has 13 = .ok (.iload_n 3, 1) := by decide +kernel
theorem dMO_has_14 : decode cMO_has 14 = .ok (.if_icmp .ge 7, 3) := by decide +kernel
theorem dMO_has_17 : decode cMO_has 17 = .ok (.iload_n 3, 1) := by decide +kernel
theorem dMO_has_18 : decode cMO_has 18 = .ok (.goto 4, 3) := by decide +kernel
theorem dMO_has_21 : decode cMO_has 21 = .ok (.iload_n 2, 1) := by decide +kernel
theorem dMO_has_22 : decode cMO_has 22 = .ok (.istore 6, 2) := by decide +kernel
theorem dMO_has_24 : decode cMO_has 24 = .ok (.iload 6, 2) := by decide +kernel
theorem dMO_has_26 : decode cMO_has 26 = .ok (.iload 5, 2) := by decide +kernel
theorem dMO_has_28 : decode cMO_has 28 = .ok (.iconst 1, 1) := by decide +kernel
theorem dMO_has_29 : decode cMO_has 29 = .ok (.iadd, 1) := by decide +kernel
theorem dMO_has_30 : decode cMO_has 30 = .ok (.if_icmp .eq 32, 3) := by decide +kernel
theorem dMO_has_33 : decode cMO_has 33 = .ok (.iload 5, 2) := by decide +kernel
theorem dMO_has_35 : decode cMO_has 35 = .ok (.ifCond .ne 10, 3) := by decide +kernel
theorem dMO_has_38 : decode cMO_has 38 = .ok (.iload 6, 2) := by decide +kernel
theorem dMO_has_40 : decode cMO_has 40 = .ok (.iload 4, 2) := by decide +kernel
theorem dMO_has_42 : decode cMO_has 42 = .ok (.if_icmp .eq 20, 3) := by decide +kernel
theorem dMO_has_45 : decode cMO_has 45 = .ok (.lload_n 0, 1) := by decide +kernel
theorem dMO_has_46 : decode cMO_has 46 = .ok (.bipush 8, 2) := by decide +kernel
theorem dMO_has_48 : decode cMO_has 48 = .ok (.iload 5, 2) := by decide +kernel
theorem dMO_has_50 : decode cMO_has 50 = .ok (.imul, 1) := by decide +kernel
theorem dMO_has_51 : decode cMO_has 51 = .ok (.iload 6, 2) := by decide +kernel
theorem dMO_has_53 : decode cMO_has 53 = .ok (.iadd, 1) := by decide +kernel
theorem dMO_has_54 : decode cMO_has 54 = .ok (.lshr, 1) := by decide +kernel
theorem dMO_has_55 : decode cMO_has 55 = .ok (.lconst 1, 1) := by decide +kernel
theorem dMO_has_56 : decode cMO_has 56 = .ok (.land, 1) := by decide +kernel
theorem dMO_has_57 : decode cMO_has 57 = .ok (.lconst 1, 1) := by decide +kernel
theorem dMO_has_58 : decode cMO_has 58 = .ok (.lcmp, 1) := by decide +kernel
theorem dMO_has_59 : decode cMO_has 59 = .ok (.ifCond .ne 7, 3) := by decide +kernel
theorem dMO_has_62 : decode cMO_has 62 = .ok (.iconst 1, 1) := by decide +kernel
theorem dMO_has_63 : decode cMO_has 63 = .ok (.goto 4, 3) := by decide +kernel
theorem dMO_has_66 : decode cMO_has 66 = .ok (.iconst 0, 1) := by decide +kernel
theorem dMO_has_67 : decode cMO_has 67 = .ok (.ireturn, 1) := by decide +kernel
theorem dMO_flipped_0 : decode cMO_flipped 0 = .ok (.iconst (-1), 1) := by decide +kernel
theorem dMO_flipped_1 : decode cMO_flipped 1 = .ok (.istore 5, 2) := by decide +kernel
theorem dMO_flipped_3 : decode cMO_flipped 3 = .ok (.iconst (-1), 1) := by decide +kernel
theorem dMO_flipped_4 : decode cMO_flipped 4 = .ok (.istore 6, 2) := by decide +kernel
theorem dMO_flipped_6 : decode cMO_flipped 6 = .ok (.iconst 0, 1) := by decide +kernel
theorem dMO_flipped_7 : decode cMO_flipped 7 = .ok (.istore 7, 2) := by decide +kernel
theorem dMO_flipped_9 : decode cMO_flipped 9 = .ok (.iload 7, 2) := by decide +kernel
theorem dMO_flipped_11 : decode cMO_flipped 11 = .ok (.iload 4, 2) := by decide +kernel
theorem dMO_flipped_13 : decode cMO_flipped 13 = .ok (.if_icmp .gt 104, 3) := by decide +kernel
theorem dMO_flipped_16 : decode cMO_flipped 16 = .ok (.iload 7, 2) := by decide +kernel
theorem dMO_flipped_18 : decode cMO_flipped 18 = .ok (.iload_n 2, 1) := by decide +kernel
theorem dMO_flipped_19 : decode cMO_flipped 19 = .ok (.if_icmp .eq 37, 3) := by decide +kernel
theorem dMO_flipped_22 : decode cMO_flipped 22 = .ok (.iload 7, 2) := by decide +kernel
theorem dMO_flipped_24 : decode cMO_flipped 24 = .ok (.iload_n 3, 1) := by decide +kernel
theorem dMO_flipped_25 : decode cMO_flipped 25 = .ok (.if_icmp .eq 31, 3) := by decide +kernel
theorem dMO_flipped_28 : decode cMO_flipped 28 = .ok (.lload_n 0, 1) := by decide +kernel
theorem dMO_flipped_29 : decode cMO_flipped 29 = .ok (.iload 7, 2) := by decide +kernel
theorem dMO_flipped_31 : decode cMO_flipped 31 = .ok (.iload_n 2, 1) := by decide +kernel
theorem dMO_flipped_32 : decode cMO_flipped 32 = .ok (.iload 4, 2) := by decide +kernel
theorem dMO_flipped_34 : decode cMO_flipped 34 = .ok (.invokestatic 129, 3) := by decide +kernel
theorem dMO_flipped_37 : decode cMO_flipped 37 = .ok (.ifCond .eq 19, 3) := by decide +kernel
theorem dMO_flipped_40 : decode cMO_flipped 40 = .ok (.lload_n 0, 1) := by decide +kernel
theorem dMO_flipped_41 : decode cMO_flipped 41 = .ok (.iload 7, 2) := by decide +kernel
theorem dMO_flipped_43 : decode cMO_flipped 43 = .ok (.iload_n 3, 1) := by decide +kernel
theorem dMO_flipped_44 : decode cMO_flipped 44 = .ok (.iload 4, 2) := by decide +kernel
theorem dMO_flipped_46 : decode cMO_flipped 46 = .ok (.invokestatic 129, 3) := by decide +kernel
theorem dMO_flipped_49 : decode cMO_flipped 49 = .ok (.ifCond .eq 7, 3) := by decide +kernel
theorem dMO_flipped_52 : decode cMO_flipped 52 = .ok (.iconst 1, 1) := by decide +kernel
theorem dMO_flipped_53 : decode cMO_flipped 53 = .ok (.goto 4, 3) := by decide +kernel
theorem dMO_flipped_56 : decode cMO_flipped 56 = .ok (.iconst 0, 1) := by decide +kernel
theorem dMO_flipped_57 : decode cMO_flipped 57 = .ok (.istore 8, 2) := by decide +kernel
theorem dMO_flipped_59 : decode cMO_flipped 59 = .ok (.iload 8, 2) := by decide +kernel
theorem dMO_flipped_61 : decode cMO_flipped 61 = .ok (.ifCond .eq 20, 3) := by decide +kernel
theorem dMO_flipped_64 : decode cMO_flipped 64 = .ok (.iload 7, 2) := by decide +kernel
theorem dMO_flipped_66 : decode cMO_flipped 66 = .ok (.iload_n 2, 1) := by decide +kernel
theorem dMO_flipped_67 : decode cMO_flipped 67 = .ok (.if_icmp .le 14, 3) := by decide +kernel
theorem dMO_flipped_70 : decode cMO_flipped 70 = .ok (.iload 7, 2) := by decide +kernel
theorem dMO_flipped_72 : decode cMO_flipped 72 = .ok (.iload_n 3, 1) := by decide +kernel
theorem dMO_flipped_73 : decode cMO_flipped 73 = .ok (.if_icmp .ge 8, 3) := by decide +kernel
theorem dMO_flipped_76 : decode cMO_flipped 76 = .ok (.iload 7, 2) := by decide +kernel
theorem dMO_flipped_78 : decode cMO_flipped 78 = .ok (.goto 5, 3) := by decide +kernel
theorem dMO_flipped_81 : decode cMO_flipped 81 = .ok (.iload 5, 2) := by decide +kernel
theorem dMO_flipped_83 : decode cMO_flipped 83 = .ok (.istore 5, 2) := by decide +kernel
theorem dMO_flipped_85 : decode cMO_flipped 85 = .ok (.iload 8, 2) := by decide +kernel
theorem dMO_flipped_87 : decode cMO_flipped 87 = .ok (.ifCond .eq 20, 3) := by decide +kernel
theorem dMO_flipped_90 : decode cMO_flipped 90 = .ok (.iload 7, 2) := by decide +kernel
theorem dMO_flipped_92 : decode cMO_flipped 92 = .ok (.iload_n 2, 1) := by decide +kernel
theorem dMO_flipped_93 : decode cMO_flipped 93 = .ok (.if_icmp .lt 9, 3) := by decide +kernel
theorem dMO_flipped_96 : decode cMO_flipped 96 = .ok (.iload 7, 2) := by decide +kernel
theorem dMO_flipped_98 : decode cMO_flipped 98 = .ok (.iload_n 3, 1) := by decide +kernel
theorem dMO_flipped_99 : decode cMO_flipped 99 = .ok (.if_icmp .le 8, 3) := by decide +kernel
theorem dMO_flipped_102 : decode cMO_flipped 102 = .ok (.iload 7, 2) := by decide +kernel
theorem dMO_flipped_104 : decode cMO_flipped 104 = .ok (.goto 5, 3) := by decide +kernel
theorem dMO_flipped_107 : decode cMO_flipped 107 = .ok (.iload 6, 2) := by decide +kernel
theorem dMO_flipped_109 : decode cMO_flipped 109 = .ok (.istore 6, 2) := by decide +kernel
theorem dMO_flipped_111 : decode cMO_flipped 111 = .ok (.iinc 7 1, 3) := by decide +kernel
theorem dMO_flipped_114 : decode cMO_flipped 114 = .ok (.goto (-105), 3) := by decide +kernel
theorem dMO_flipped_117 : decode cMO_flipped 117 = .ok (.iload 5, 2) := by decide +kernel
theorem dMO_flipped_119 : decode cMO_flipped 119 = .ok (.iload 6, 2) := by decide +kernel
theorem dMO_flipped_121 : decode cMO_flipped 121 = .ok (.if_icmp .ge 8, 3) := by decide +kernel
theorem dMO_flipped_124 : decode cMO_flipped 124 = .ok (.iload 5, 2) := by decide +kernel
theorem dMO_flipped_126 : decode cMO_flipped 126 = .ok (.goto 5, 3) := by decide +kernel
theorem dMO_flipped_129 : decode cMO_flipped 129 = .ok (.iload 6, 2) := by decide +kernel
theorem dMO_flipped_131 : decode cMO_flipped 131 = .ok (.istore 7, 2) := by decide +kernel
theorem dMO_flipped_133 : decode cMO_flipped 133 = .ok (.iload 5, 2) := by decide +kernel
theorem dMO_flipped_135 : decode cMO_flipped 135 = .ok (.iload 6, 2) := by decide +kernel
theorem dMO_flipped_137 : decode cMO_flipped 137 = .ok (.if_icmp .ge 8, 3) := by decide +kernel
theorem dMO_flipped_140 : decode cMO_flipped 140 = .ok (.iload 6, 2) := by decide +kernel
theorem dMO_flipped_142 : decode cMO_flipped 142 = .ok (.goto 5, 3) := by decide +kernel
theorem dMO_flipped_145 : decode cMO_flipped 145 = .ok (.iload 5, 2) := by decide +kernel
theorem dMO_flipped_147 : decode cMO_flipped 147 = .ok (.istore 8, 2) := by decide +kernel
theorem dMO_flipped_149 : decode cMO_flipped 149 = .ok (.lload_n 0, 1) := by decide +kernel
theorem dMO_flipped_150 : decode cMO_flipped 150 = .ok (.lconst 1, 1) := by decide +kernel
theorem dMO_flipped_151 : decode cMO_flipped 151 = .ok (.bipush 8, 2) := by decide +kernel
theorem dMO_flipped_153 : decode cMO_flipped 153 = .ok (.iload_n 2, 1) := by decide +kernel
theorem dMO_flipped_154 : decode cMO_flipped 154 = .ok (.imul, 1) := by decide +kernel
theorem dMO_flipped_155 : decode cMO_flipped 155 = .ok (.iload_n 3, 1) := by decide +kernel
theorem dMO_flipped_156 : decode cMO_flipped 156 = .ok (.iadd, 1) := by decide +kernel
theorem dMO_flipped_157 : decode cMO_flipped 157 = .ok (.lshl, 1) := by decide +kernel
theorem dMO_flipped_158 : decode cMO_flipped 158 = .ok (.ldc2_w 133, 3) := by decide +kernel
theorem dMO_flipped_161 : decode cMO_flipped 161 = .ok (.lxor, 1) := by decide +kernel
theorem dMO_flipped_162 : decode cMO_flipped 162 = .ok (.land, 1) := by decide +kernel
theorem dMO_flipped_163 : decode cMO_flipped 163 = .ok (.lconst 1, 1) := by decide +kernel
theorem dMO_flipped_164 : decode cMO_flipped 164 = .ok (.bipush 8, 2) := by decide +kernel
theorem dMO_flipped_166 : decode cMO_flipped 166 = .ok (.iload 7, 2) := by decide +kernel
theorem dMO_flipped_168 : decode cMO_flipped 168 = .ok (.imul, 1) := by decide +kernel
theorem dMO_flipped_169 : decode cMO_flipped 169 = .ok (.iload 8, 2) := by decide +kernel
theorem dMO_flipped_171 : decode cMO_flipped 171 = .ok (.iadd, 1) := by decide +kernel
theorem dMO_flipped_172 : decode cMO_flipped 172 = .ok (.lshl, 1) := by decide +kernel
theorem dMO_flipped_173 : decode cMO_flipped 173 = .ok (.lor, 1) := by decide +kernel
theorem dMO_flipped_174 : decode cMO_flipped 174 = .ok (.lreturn, 1) := by decide +kernel
theorem dMO_list_0 : decode cMO_list 0 = .ok (.iconst 0, 1) := by decide +kernel
theorem dMO_list_1 : decode cMO_list 1 = .ok (.istore_n 1, 1) := by decide +kernel
theorem dMO_list_2 : decode cMO_list 2 = .ok (.aload_n 0, 1) := by decide +kernel
theorem dMO_list_3 : decode cMO_list 3 = .ok (.aload_n 0, 1) := by decide +kernel
theorem dMO_list_4 : decode cMO_list 4 = .ok (.getfield 20, 3) := by decide +kernel
theorem dMO_list_7 : decode cMO_list 7 = .ok (.invokevirtual 57, 3) := by decide +kernel
theorem dMO_list_10 : decode cMO_list 10 = .ok (.iconst 1, 1) := by decide +kernel
theorem dMO_list_11 : decode cMO_list 11 = .ok (.istore_n 2, 1) := by decide +kernel
theorem dMO_list_12 : decode cMO_list 12 = .ok (.iload_n 2, 1) := by decide +kernel
theorem dMO_list_13 : decode cMO_list 13 = .ok (.ifCond .eq 92, 3) := by decide +kernel
theorem dMO_list_16 : decode cMO_list 16 = .ok (.aload_n 0, 1) := by decide +kernel
theorem dMO_list_17 : decode cMO_list 17 = .ok (.aload_n 0, 1) := by decide +kernel
theorem dMO_list_18 : decode cMO_list 18 = .ok (.getfield 20, 3) := by decide +kernel
theorem dMO_list_21 : decode cMO_list 21 = .ok (.iconst 3, 1) := by decide +kernel
theorem dMO_list_22 : decode cMO_list 22 = .ok (.aload_n 0, 1) := by decide +kernel
theorem dMO_list_23 : decode cMO_list 23 = .ok (.getfield 23, 3) := by decide +kernel
theorem dMO_list_26 : decode cMO_list 26 = .ok (.invokevirtual 107, 3) := by decide +kernel
theorem dMO_list_29 : decode cMO_list 29 = .ok (.istore_n 3, 1) := by decide +kernel
theorem dMO_list_30 : decode cMO_list 30 = .ok (.aload_n 0, 1) := by decide +kernel
theorem dMO_list_31 : decode cMO_list 31 = .ok (.getfield 47, 3) := by decide +kernel
theorem dMO_list_34 : decode cMO_list 34 = .ok (.iload_n 1, 1) := by decide +kernel
theorem dMO_list_35 : decode cMO_list 35 = .ok (.lconst 0, 1) := by decide +kernel
theorem dMO_list_36 : decode cMO_list 36 = .ok (.lastore, 1) := by decide +kernel
theorem dMO_list_37 : decode cMO_list 37 = .ok (.iconst 0, 1) := by decide +kernel
theorem dMO_list_38 : decode cMO_list 38 = .ok (.istore 4, 2) := by decide +kernel
theorem dMO_list_40 : decode cMO_list 40 = .ok (.iload 4, 2) := by decide +kernel
theorem dMO_list_42 : decode cMO_list 42 = .ok (.iload_n 3, 1) := by decide +kernel
theorem dMO_list_43 : decode cMO_list 43 = .ok (.if_icmp .ge 40, 3) := by decide +kernel
theorem dMO_list_46 : decode cMO_list 46 = .ok (.aload_n 0, 1) := by decide +kernel
theorem dMO_list_47 : decode cMO_list 47 = .ok (.getfield 47, 3) := by decide +kernel
theorem dMO_list_50 : decode cMO_list 50 = .ok (.iload_n 1, 1) := by decide +kernel
theorem dMO_list_51 : decode cMO_list 51 = .ok (.dup2, 1) := by decide +kernel
theorem dMO_list_52 : decode cMO_list 52 = .ok (.laload, 1) := by decide +kernel
theorem dMO_list_53 : decode cMO_list 53 = .ok (.lconst 1, 1) := by decide +kernel
theorem dMO_list_54 : decode cMO_list 54 = .ok (.bipush 8, 2) := by decide +kernel
theorem dMO_list_56 : decode cMO_list 56 = .ok (.aload_n 0, 1) := by decide +kernel
theorem dMO_list_57 : decode cMO_list 57 = .ok (.getfield 23, 3) := by decide +kernel
theorem dMO_list_60 : decode cMO_list 60 = .ok (.iload 4, 2) := by decide +kernel
theorem dMO_list_62 : decode cMO_list 62 = .ok (.iaload, 1) := by decide +kernel
theorem dMO_list_63 : decode cMO_list 63 = .ok (.imul, 1) := by decide +kernel
theorem dMO_list_64 : decode cMO_list 64 = .ok (.aload_n 0, 1) := by decide +kernel
theorem dMO_list_65 : decode cMO_list 65 = .ok (.getfield 23, 3) := by decide +kernel
theorem dMO_list_68 : decode cMO_list 68 = .ok (.iload 4, 2) := by decide +kernel
theorem dMO_list_70 : decode cMO_list 70 = .ok (.iconst 1, 1) := by decide +kernel
theorem dMO_list_71 : decode cMO_list 71 = .ok (.iadd, 1) := by decide +kernel
theorem dMO_list_72 : decode cMO_list 72 = .ok (.iaload, 1) := by decide +kernel
theorem dMO_list_73 : decode cMO_list 73 = .ok (.iadd, 1) := by decide +kernel
theorem dMO_list_74 : decode cMO_list 74 = .ok (.lshl, 1) := by decide +kernel
theorem dMO_list_75 : decode cMO_list 75 = .ok (.lor, 1) := by decide +kernel
theorem dMO_list_76 : decode cMO_list 76 = .ok (.lastore, 1) := by decide +kernel
theorem dMO_list_77 : decode cMO_list 77 = .ok (.iinc 4 2, 3) := by decide +kernel
theorem dMO_list_80 : decode cMO_list 80 = .ok (.goto (-40), 3) := by decide +kernel
theorem dMO_list_83 : decode cMO_list 83 = .ok (.aload_n 0, 1) := by decide +kernel
theorem dMO_list_84 : decode cMO_list 84 = .ok (.getfield 51, 3) := by decide +kernel
theorem dMO_list_87 : decode cMO_list 87 = .ok (.iload_n 1, 1) := by decide +kernel
theorem dMO_list_88 : decode cMO_list 88 = .ok (.iconst (-1), 1) := by decide +kernel
theorem dMO_list_89 : decode cMO_list 89 = .ok (.iastore, 1) := by decide +kernel
theorem dMO_list_90 : decode cMO_list 90 = .ok (.iinc 1 1, 3) := by decide +kernel
theorem dMO_list_93 : decode cMO_list 93 = .ok (.aload_n 0, 1) := by decide +kernel
theorem dMO_list_94 : decode cMO_list 94 = .ok (.aload_n 0, 1) := by decide +kernel
theorem dMO_list_95 : decode cMO_list 95 = .ok (.getfield 20, 3) := by decide +kernel
theorem dMO_list_98 : decode cMO_list 98 = .ok (.invokevirtual 61, 3) := by decide +kernel
theorem dMO_list_101 : decode cMO_list 101 = .ok (.istore_n 2, 1) := by decide +kernel
theorem dMO_list_102 : decode cMO_list 102 = .ok (.goto (-90), 3) := by decide +kernel
theorem dMO_list_105 : decode cMO_list 105 = .ok (.iload_n 1, 1) := by decide +kernel
theorem dMO_list_106 : decode cMO_list 106 = .ok (.ireturn, 1) := by decide +kernel
theorem dMO_spread_0 : decode cMO_spread 0 = .ok (.iconst 0, 1) := by decide +kernel
theorem dMO_spread_1 : decode cMO_spread 1 = .ok (.istore_n 3, 1) := by decide +kernel
theorem dMO_spread_2 : decode cMO_spread 2 = .ok (.iload_n 3, 1) := by decide +kernel
theorem dMO_spread_3 : decode cMO_spread 3 = .ok (.aload_n 0, 1) := by decide +kernel
theorem dMO_spread_4 : decode cMO_spread 4 = .ok (.getfield 7, 3) := by decide +kernel
theorem dMO_spread_7 : decode cMO_spread 7 = .ok (.if_icmp .gt 135, 3) := by decide +kernel
theorem dMO_spread_10 : decode cMO_spread 10 = .ok (.iload_n 3, 1) := by decide +kernel
theorem dMO_spread_11 : decode cMO_spread 11 = .ok (.iconst 2, 1) := by decide +kernel
theorem dMO_spread_12 : decode cMO_spread 12 = .ok (.iadd, 1) := by decide +kernel
theorem dMO_spread_13 : decode cMO_spread 13 = .ok (.istore 4, 2) := by decide +kernel
theorem dMO_spread_15 : decode cMO_spread 15 = .ok (.iload 4, 2) := by decide +kernel
theorem dMO_spread_17 : decode cMO_spread 17 = .ok (.aload_n 0, 1) := by decide +kernel
theorem dMO_spread_18 : decode cMO_spread 18 = .ok (.getfield 7, 3) := by decide +kernel
theorem dMO_spread_21 : decode cMO_spread 21 = .ok (.iconst 1, 1) := by decide +kernel
theorem dMO_spread_22 : decode cMO_spread 22 = .ok (.iadd, 1) := by decide +kernel
theorem dMO_spread_23 : decode cMO_spread 23 = .ok (.if_icmp .gt 113, 3) := by decide +kernel
theorem dMO_spread_26 : decode cMO_spread 26 = .ok (.aload_n 0, 1) := by decide +kernel
theorem dMO_spread_27 : decode cMO_spread 27 = .ok (.getfield 47, 3) := by decide +kernel
theorem dMO_spread_30 : decode cMO_spread 30 = .ok (.iload_n 1, 1) := by decide +kernel
theorem dMO_spread_31 : decode cMO_spread 31 = .ok (.laload, 1) := by decide +kernel
theorem dMO_spread_32 : decode cMO_spread 32 = .ok (.bipush 8, 2) := by decide +kernel
theorem dMO_spread_34 : decode cMO_spread 34 = .ok (.iload_n 3, 1) := by decide +kernel
theorem dMO_spread_35 : decode cMO_spread 35 = .ok (.imul, 1) := by decide +kernel
theorem dMO_spread_36 : decode cMO_spread 36 = .ok (.iload 4, 2) := by decide +kernel
theorem dMO_spread_38 : decode cMO_spread 38 = .ok (.iadd, 1) := by decide +kernel
theorem dMO_spread_39 : decode cMO_spread 39 = .ok (.lshr, 1) := by decide +kernel
theorem dMO_spread_40 : decode cMO_spread 40 = .ok (.lconst 1, 1) := by decide +kernel
theorem dMO_spread_41 : decode cMO_spread 41 = .ok (.land, 1) := by decide +kernel
theorem dMO_spread_42 : decode cMO_spread 42 = .ok (.lconst 1, 1) := by decide +kernel
theorem dMO_spread_43 : decode cMO_spread 43 = .ok (.lcmp, 1) := by decide +kernel
theorem dMO_spread_44 : decode cMO_spread 44 = .ok (.ifCond .ne 86, 3) := by decide +kernel
theorem dMO_spread_47 : decode cMO_spread 47 = .ok (.aload_n 0, 1) := by decide +kernel
theorem dMO_spread_48 : decode cMO_spread 48 = .ok (.getfield 47, 3) := by decide +kernel
theorem dMO_spread_51 : decode cMO_spread 51 = .ok (.iload_n 1, 1) := by decide +kernel
theorem dMO_spread_52 : decode cMO_spread 52 = .ok (.laload, 1) := by decide +kernel
theorem dMO_spread_53 : decode cMO_spread 53 = .ok (.iload_n 3, 1) := by decide +kernel
theorem dMO_spread_54 : decode cMO_spread 54 = .ok (.iload 4, 2) := by decide +kernel
theorem dMO_spread_56 : decode cMO_spread 56 = .ok (.aload_n 0, 1) := by decide +kernel
theorem dMO_spread_57 : decode cMO_spread 57 = .ok (.getfield 7, 3) := by decide +kernel
theorem dMO_spread_60 : decode cMO_spread 60 = .ok (.iconst 1, 1) := by decide +kernel
theorem dMO_spread_61 : decode cMO_spread 61 = .ok (.iadd, 1) := by decide +kernel
theorem dMO_spread_62 : decode cMO_spread 62 = .ok (.invokestatic 135, 3) := by decide +kernel
theorem dMO_spread_65 : decode cMO_spread 65 = .ok (.lstore 5, 2) := by decide +kernel
theorem dMO_spread_67 : decode cMO_spread 67 = .ok (.iconst 0, 1) := by decide +kernel
theorem dMO_spread_68 : decode cMO_spread 68 = .ok (.istore 7, 2) := by decide +kernel
theorem dMO_spread_70 : decode cMO_spread 70 = .ok (.iload 7, 2) := by decide +kernel
theorem dMO_spread_72 : decode cMO_spread 72 = .ok (.iload_n 2, 1) := by decide +kernel
theorem dMO_spread_73 : decode cMO_spread 73 = .ok (.if_icmp .ge 57, 3) := by decide +kernel
theorem dMO_spread_76 : decode cMO_spread 76 = .ok (.aload_n 0, 1) := by decide +kernel
theorem dMO_spread_77 : decode cMO_spread 77 = .ok (.getfield 51, 3) := by decide +kernel
theorem dMO_spread_80 : decode cMO_spread 80 = .ok (.iload 7, 2) := by decide +kernel
theorem dMO_spread_82 : decode cMO_spread 82 = .ok (.aload_n 0, 1) := by decide +kernel
theorem dMO_spread_83 : decode cMO_spread 83 = .ok (.getfield 47, 3) := by decide +kernel
theorem dMO_spread_86 : decode cMO_spread 86 = .ok (.iload 7, 2) := by decide +kernel
theorem dMO_spread_88 : decode cMO_spread 88 = .ok (.laload, 1) := by decide +kernel
theorem dMO_spread_89 : decode cMO_spread 89 = .ok (.lload 5, 2) := by decide +kernel
theorem dMO_spread_91 : decode cMO_spread 91 = .ok (.lcmp, 1) := by decide +kernel
theorem dMO_spread_92 : decode cMO_spread 92 = .ok (.ifCond .ne 24, 3) := by decide +kernel
theorem dMO_spread_95 : decode cMO_spread 95 = .ok (.aload_n 0, 1) := by decide +kernel
theorem dMO_spread_96 : decode cMO_spread 96 = .ok (.getfield 51, 3) := by decide +kernel
theorem dMO_spread_99 : decode cMO_spread 99 = .ok (.iload 7, 2) := by decide +kernel
theorem dMO_spread_101 : decode cMO_spread 101 = .ok (.iaload, 1) := by decide +kernel
theorem dMO_spread_102 : decode cMO_spread 102 = .ok (.ifCond .ge 14, 3) := by decide +kernel
theorem dMO_spread_105 : decode cMO_spread 105 = .ok (.aload_n 0, 1) := by decide +kernel
theorem dMO_spread_106 : decode cMO_spread 106 = .ok (.getfield 51, 3) := by decide +kernel
theorem dMO_spread_109 : decode cMO_spread 109 = .ok (.iload_n 1, 1) := by decide +kernel
theorem dMO_spread_110 : decode cMO_spread 110 = .ok (.iaload, 1) := by decide +kernel
theorem dMO_spread_111 : decode cMO_spread 111 = .ok (.iconst 1, 1) := by decide +kernel
theorem dMO_spread_112 : decode cMO_spread 112 = .ok (.iadd, 1) := by decide +kernel
theorem dMO_spread_113 : decode cMO_spread 113 = .ok (.goto 10, 3) := by decide +kernel
theorem dMO_spread_116 : decode cMO_spread 116 = .ok (.aload_n 0, 1) := by decide +kernel
theorem dMO_spread_117 : decode cMO_spread 117 = .ok (.getfield 51, 3) := by decide +kernel
theorem dMO_spread_120 : decode cMO_spread 120 = .ok (.iload 7, 2) := by decide +kernel
theorem dMO_spread_122 : decode cMO_spread 122 = .ok (.iaload, 1) := by decide +kernel
theorem dMO_spread_123 : decode cMO_spread 123 = .ok (.iastore, 1) := by decide +kernel
theorem dMO_spread_124 : decode cMO_spread 124 = .ok (.iinc 7 1, 3) := by decide +kernel
theorem dMO_spread_127 : decode cMO_spread 127 = .ok (.goto (-57), 3) := by decide +kernel
theorem dMO_spread_130 : decode cMO_spread 130 = .ok (.iinc 4 1, 3) := by decide +kernel
theorem dMO_spread_133 : decode cMO_spread 133 = .ok (.goto (-118), 3) := by decide +kernel
theorem dMO_spread_136 : decode cMO_spread 136 = .ok (.iinc 3 1, 3) := by decide +kernel
theorem dMO_spread_139 : decode cMO_spread 139 = .ok (.goto (-137), 3) := by decide +kernel
theorem dMO_spread_142 : decode cMO_spread 142 = .ok (.return_, 1) := by decide +kernel
theorem dMO_flips_0 : decode cMO_flips 0 = .ok (.aload_n 0, 1) := by decide +kernel
theorem dMO_flips_1 : decode cMO_flips 1 = .ok (.aload_n 0, 1) := by decide +kernel
theorem dMO_flips_2 : decode cMO_flips 2 = .ok (.getfield 7, 3) := by decide +kernel
theorem dMO_flips_5 : decode cMO_flips 5 = .ok (.bipush 6, 2) := by decide +kernel
theorem dMO_flips_7 : decode cMO_flips 7 = .ok (.if_icmp .gt 14, 3) := by decide +kernel
theorem dMO_flips_10 : decode cMO_flips 10 = .ok (.iload_n 1, 1) := by decide +kernel
theorem dMO_flips_11 : decode cMO_flips 11 = .ok (.ifCond .lt 10, 3) := by decide +kernel
theorem dMO_flips_14 : decode cMO_flips 14 = .ok (.iload_n 1, 1) := by decide +kernel
theorem dMO_flips_15 : decode cMO_flips 15 = .ok (.sipush 131, 3) := by decide +kernel
theorem dMO_flips_18 : decode cMO_flips 18 = .ok (.if_icmp .le 7, 3) := by decide +kernel
theorem dMO_flips_21 : decode cMO_flips 21 = .ok (.iconst 1, 1) := by decide +kernel
theorem dMO_flips_22 : decode cMO_flips 22 = .ok (.goto 4, 3) := by decide +kernel
theorem dMO_flips_25 : decode cMO_flips 25 = .ok (.iconst 0, 1) := by decide +kernel
theorem dMO_flips_26 : decode cMO_flips 26 = .ok (.putfield 54, 3) := by decide +kernel
theorem dMO_flips_29 : decode cMO_flips 29 = .ok (.aload_n 0, 1) := by decide +kernel
theorem dMO_flips_30 : decode cMO_flips 30 = .ok (.getfield 54, 3) := by decide +kernel
theorem dMO_flips_33 : decode cMO_flips 33 = .ok (.ifCond .le 5, 3) := by decide +kernel
theorem dMO_flips_36 : decode cMO_flips 36 = .ok (.iconst 0, 1) := by decide +kernel
theorem dMO_flips_37 : decode cMO_flips 37 = .ok (.ireturn, 1) := by decide +kernel
theorem dMO_flips_38 : decode cMO_flips 38 = .ok (.aload_n 0, 1) := by decide +kernel
theorem dMO_flips_39 : decode cMO_flips 39 = .ok (.invokevirtual 139, 3) := by decide +kernel
theorem dMO_flips_42 : decode cMO_flips 42 = .ok (.istore_n 2, 1) := by decide +kernel
theorem dMO_flips_43 : decode cMO_flips 43 = .ok (.iload_n 1, 1) := by decide +kernel
theorem dMO_flips_44 : decode cMO_flips 44 = .ok (.iload_n 2, 1) := by decide +kernel
theorem dMO_flips_45 : decode cMO_flips 45 = .ok (.if_icmp .lt 10, 3) := by decide +kernel
theorem dMO_flips_48 : decode cMO_flips 48 = .ok (.aload_n 0, 1) := by decide +kernel
theorem dMO_flips_49 : decode cMO_flips 49 = .ok (.iconst 1, 1) := by decide +kernel
theorem dMO_flips_50 : decode cMO_flips 50 = .ok (.putfield 54, 3) := by decide +kernel
theorem dMO_flips_53 : decode cMO_flips 53 = .ok (.iconst 0, 1) := by decide +kernel
theorem dMO_flips_54 : decode cMO_flips 54 = .ok (.ireturn, 1) := by decide +kernel
theorem dMO_flips_55 : decode cMO_flips 55 = .ok (.aload_n 0, 1) := by decide +kernel
theorem dMO_flips_56 : decode cMO_flips 56 = .ok (.invokevirtual 73, 3) := by decide +kernel
theorem dMO_flips_59 : decode cMO_flips 59 = .ok (.istore_n 3, 1) := by decide +kernel
theorem dMO_flips_60 : decode cMO_flips 60 = .ok (.aload_n 0, 1) := by decide +kernel
theorem dMO_flips_61 : decode cMO_flips 61 = .ok (.getfield 51, 3) := by decide +kernel
theorem dMO_flips_64 : decode cMO_flips 64 = .ok (.iload_n 3, 1) := by decide +kernel
theorem dMO_flips_65 : decode cMO_flips 65 = .ok (.iconst 0, 1) := by decide +kernel
theorem dMO_flips_66 : decode cMO_flips 66 = .ok (.iastore, 1) := by decide +kernel
theorem dMO_flips_67 : decode cMO_flips 67 = .ok (.iconst 0, 1) := by decide +kernel
theorem dMO_flips_68 : decode cMO_flips 68 = .ok (.istore 4, 2) := by decide +kernel
theorem dMO_flips_70 : decode cMO_flips 70 = .ok (.aload_n 0, 1) := by decide +kernel
theorem dMO_flips_71 : decode cMO_flips 71 = .ok (.getfield 51, 3) := by decide +kernel
theorem dMO_flips_74 : decode cMO_flips 74 = .ok (.iload_n 1, 1) := by decide +kernel
theorem dMO_flips_75 : decode cMO_flips 75 = .ok (.iaload, 1) := by decide +kernel
theorem dMO_flips_76 : decode cMO_flips 76 = .ok (.ifCond .ge 43, 3) := by decide +kernel
theorem dMO_flips_79 : decode cMO_flips 79 = .ok (.iconst 0, 1) := by decide +kernel
theorem dMO_flips_80 : decode cMO_flips 80 = .ok (.istore 5, 2) := by decide +kernel
theorem dMO_flips_82 : decode cMO_flips 82 = .ok (.iload 5, 2) := by decide +kernel
theorem dMO_flips_84 : decode cMO_flips 84 = .ok (.iload_n 2, 1) := by decide +kernel
theorem dMO_flips_85 : decode cMO_flips 85 = .ok (.if_icmp .ge 28, 3) := by decide +kernel
theorem dMO_flips_88 : decode cMO_flips 88 = .ok (.aload_n 0, 1) := by decide +kernel
theorem dMO_flips_89 : decode cMO_flips 89 = .ok (.getfield 51, 3) := by decide +kernel
theorem dMO_flips_92 : decode cMO_flips 92 = .ok (.iload 5, 2) := by decide +kernel
theorem dMO_flips_94 : decode cMO_flips 94 = .ok (.iaload, 1) := by decide +kernel
theorem dMO_flips_95 : decode cMO_flips 95 = .ok (.iload 4, 2) := by decide +kernel
theorem dMO_flips_97 : decode cMO_flips 97 = .ok (.if_icmp .ne 10, 3) := by decide +kernel
theorem dMO_flips_100 : decode cMO_flips 100 = .ok (.aload_n 0, 1) := by decide +kernel
theorem dMO_flips_101 : decode cMO_flips 101 = .ok (.iload 5, 2) := by decide +kernel
theorem dMO_flips_103 : decode cMO_flips 103 = .ok (.iload_n 2, 1) := by decide +kernel
theorem dMO_flips_104 : decode cMO_flips 104 = .ok (.invokevirtual 142, 3) := by decide +kernel
theorem dMO_flips_107 : decode cMO_flips 107 = .ok (.iinc 5 1, 3) := by decide +kernel
theorem dMO_flips_110 : decode cMO_flips 110 = .ok (.goto (-28), 3) := by decide +kernel
theorem dMO_flips_113 : decode cMO_flips 113 = .ok (.iinc 4 1, 3) := by decide +kernel
theorem dMO_flips_116 : decode cMO_flips 116 = .ok (.goto (-46), 3) := by decide +kernel
theorem dMO_flips_119 : decode cMO_flips 119 = .ok (.aload_n 0, 1) := by decide +kernel
theorem dMO_flips_120 : decode cMO_flips 120 = .ok (.getfield 51, 3) := by decide +kernel
theorem dMO_flips_123 : decode cMO_flips 123 = .ok (.iload_n 1, 1) := by decide +kernel
theorem dMO_flips_124 : decode cMO_flips 124 = .ok (.iaload, 1) := by decide +kernel
theorem dMO_flips_125 : decode cMO_flips 125 = .ok (.ireturn, 1) := by decide +kernel
